def sX8_in (x0 : Int32) (x1 : Int32) (x2 : Int32) : Option ((Int32)) :=
gv (if x0 < x1 then (0 : Int32) else (if x2 < x0 then (0 : Int32) else (1 : Int32))) fun v_15 =>
some v_15
set_option maxRecDepth 100000 in
set_option maxHeartbeats 8000000 in
theorem kX8_in (l : Launch) (x0 : Int32) (x1 : Int32) (x2 : Int32) (r : Int32) (hs : sX8_in x0 x1 x2 = some r) : McS l yX8_in cX8_in 3 (some .boolean) 0 [.int x0, .int x1, .int x2] (some (.int r)) := by
  refine S_start rfl (Nat.le_of_ble_eq_true rfl) ?_
  intro p e s m args below meth c H locs C hI ls hl
  have hl : lv_has ls 3 [(0, .int x0), (1, .int x1), (2, .int x2)] := hl
  rw [sX8_in] at hs
  refine lv_iload_n C.1 C.2.1 dX8_in_0 rfl (lv_at hl 0 rfl) ?_
  refine lv_iload_n C.1 C.2.1 dX8_in_1 rfl (lv_at hl 1 rfl) ?_
  obtain ⟨v_15, ev_15, hs⟩ := gv_ex hs
  have KP_15 : W p l e (rmL 0) s m args below meth c H locs 0 0 (MQ below (fun _ st oc t => oc = .returned (some (.int r)) ∧ t.heap = st.heap) args s 0 0 (fun _ => False)) (F0 m 15 ls [.int v_15]) := by
    obtain rfl := Option.some.inj hs
    exact S_zret C hI (isB_ev ev_15 (by (repeat' split) <;> decide)) dX8_in_15
  refine lv_icmp_lt (tgt := 14) C.1 C.2.1 dX8_in_2 (by decide) (fun cn => ?_) (fun cn => ?_)
  · have ev_15 := if_t' cn ev_15
    refine lv_iconst (v := 0) C.1 C.2.1 dX8_in_14 (by decide) ?_
    subst ev_15
    exact KP_15
  · have ev_15 := if_f' cn ev_15
    refine lv_iload_n C.1 C.2.1 dX8_in_5 rfl (lv_at hl 0 rfl) ?_
    refine lv_iload_n C.1 C.2.1 dX8_in_6 rfl (lv_at hl 2 rfl) ?_
    refine lv_icmp_gt (tgt := 14) C.1 C.2.1 dX8_in_7 (by decide) (fun cn => ?_) (fun cn => ?_)
    · have ev_15 := if_t' cn ev_15
      refine lv_iconst (v := 0) C.1 C.2.1 dX8_in_14 (by decide) ?_
      subst ev_15
      exact KP_15
    · have ev_15 := if_f' cn ev_15
      refine lv_iconst (v := 1) C.1 C.2.1 dX8_in_10 (by decide) ?_
      refine lv_goto (tgt := 15) C.1 C.2.1 dX8_in_11 (by decide) ?_
      subst ev_15
      exact KP_15

def sX8_refuses (x1 : Int32) (I : Nat → Int32) (J : Nat → Int64) (A : Nat → Nat → Int32) (B : Nat → Nat → Int64) : Option ((Int32) × (Nat → Int32)) :=
gv (upd I 0 x1) fun I =>
some (x1, I)
set_option maxRecDepth 100000 in
set_option maxHeartbeats 8000000 in
theorem kX8_refuses (l : Launch) (D : va_G) (cy : Nat → ClassId) (q : Nat → Nat) (x1 : Int32) (I : Nat → Int32) (J : Nat → Int64) (A : Nat → Nat → Int32) (B : Nat → Nat → Int64) (r : Int32) (I2 : Nat → Int32) (hs : sX8_refuses x1 I J A B = some (r, I2)) : McI l yX8_refuses cX8_refuses 2 (some .int) 0 [.ref (q 46), .int x1] D cy q I J A B (some (.int r)) I2 J A B := by
  refine M_start rfl rfl (Nat.le_of_ble_eq_true rfl) ?_
  intro p e s m args below meth c H locs C hI ls hl
  have hl : lv_has ls 2 [(0, .ref (q 46)), (1, .int x1)] := hl
  rw [sX8_refuses] at hs
  refine lv_aload_n C.1 C.2.1 dX8_refuses_0 rfl (lv_at hl 0 rfl) ?_
  refine lv_iload_n C.1 C.2.1 dX8_refuses_1 rfl (lv_at hl 1 rfl) ?_
  refine mp_0 C hI dX8_refuses_2 (fun H locs hI => ?_)
  have hs := gv_be hs
  refine lv_iload_n C.1 C.2.1 dX8_refuses_5 rfl (lv_at hl 1 rfl) ?_
  obtain ⟨rfl, rfl⟩ := so2 hs
  exact M_iret C hI dX8_refuses_6

def sX8_good (x1 : Int32) (I : Nat → Int32) (J : Nat → Int64) (A : Nat → Nat → Int32) (B : Nat → Nat → Int64) : Option ((Int32) × (Nat → Int32)) :=
gv (upd I 0 (0 : Int32)) fun I =>
some (x1, I)
set_option maxRecDepth 100000 in
set_option maxHeartbeats 8000000 in
theorem kX8_good (l : Launch) (D : va_G) (cy : Nat → ClassId) (q : Nat → Nat) (x1 : Int32) (I : Nat → Int32) (J : Nat → Int64) (A : Nat → Nat → Int32) (B : Nat → Nat → Int64) (r : Int32) (I2 : Nat → Int32) (hs : sX8_good x1 I J A B = some (r, I2)) : McI l yX8_good cX8_good 2 (some .int) 0 [.ref (q 46), .int x1] D cy q I J A B (some (.int r)) I2 J A B := by
  refine M_start rfl rfl (Nat.le_of_ble_eq_true rfl) ?_
  intro p e s m args below meth c H locs C hI ls hl
  have hl : lv_has ls 2 [(0, .ref (q 46)), (1, .int x1)] := hl
  rw [sX8_good] at hs
  refine lv_aload_n C.1 C.2.1 dX8_good_0 rfl (lv_at hl 0 rfl) ?_
  refine lv_iconst (v := 0) C.1 C.2.1 dX8_good_1 (by decide) ?_
  refine mp_0 C hI dX8_good_2 (fun H locs hI => ?_)
  have hs := gv_be hs
  refine lv_iload_n C.1 C.2.1 dX8_good_5 rfl (lv_at hl 1 rfl) ?_
  obtain ⟨rfl, rfl⟩ := so2 hs
  exact M_iret C hI dX8_good_6

def sX8_term (x1 : Int32) (I : Nat → Int32) (J : Nat → Int64) (A : Nat → Nat → Int32) (B : Nat → Nat → Int64) : Option ((Int32)) :=
ck (inB ((156 : Int32) + x1) 8047) <|
some (A 1 (ix ((156 : Int32) + x1)))
set_option maxRecDepth 100000 in
set_option maxHeartbeats 8000000 in
theorem kX8_term (l : Launch) (D : va_G) (cy : Nat → ClassId) (q : Nat → Nat) (x1 : Int32) (I : Nat → Int32) (J : Nat → Int64) (A : Nat → Nat → Int32) (B : Nat → Nat → Int64) (r : Int32) (hs : sX8_term x1 I J A B = some r) : McI l yX8_term cX8_term 2 (some .int) 0 [.ref (q 46), .int x1] D cy q I J A B (some (.int r)) I J A B := by
  refine M_start rfl rfl (Nat.le_of_ble_eq_true rfl) ?_
  intro p e s m args below meth c H locs C hI ls hl
  have hl : lv_has ls 2 [(0, .ref (q 46)), (1, .int x1)] := hl
  rw [sX8_term] at hs
  refine lv_aload_n C.1 C.2.1 dX8_term_0 rfl (lv_at hl 0 rfl) ?_
  refine mg_1 C hI dX8_term_1 ?_
  refine lv_sipush (v := 156) C.1 C.2.1 dX8_term_4 (by decide) ?_
  refine lv_iload_n C.1 C.2.1 dX8_term_7 rfl (lv_at hl 1 rfl) ?_
  refine lv_iadd C.1 C.2.1 dX8_term_8 ?_
  obtain ⟨hk, hs⟩ := ck_e hs
  refine ma_1 C hI hk dX8_term_9 ?_
  obtain rfl := Option.some.inj hs
  exact M_iret C hI dX8_term_10

def sX8_windOf (x1 : Int32) (x2 : Int32) (I : Nat → Int32) (J : Nat → Int64) (A : Nat → Nat → Int32) (B : Nat → Nat → Int64) : Option ((Int32)) :=
ck (inB (((165 : Int32) + ((3 : Int32) * x1)) + x2) 8047) <|
some (A 1 (ix (((165 : Int32) + ((3 : Int32) * x1)) + x2)))
set_option maxRecDepth 100000 in
set_option maxHeartbeats 8000000 in
theorem kX8_windOf (l : Launch) (D : va_G) (cy : Nat → ClassId) (q : Nat → Nat) (x1 : Int32) (x2 : Int32) (I : Nat → Int32) (J : Nat → Int64) (A : Nat → Nat → Int32) (B : Nat → Nat → Int64) (r : Int32) (hs : sX8_windOf x1 x2 I J A B = some r) : McI l yX8_windOf cX8_windOf 3 (some .int) 0 [.ref (q 46), .int x1, .int x2] D cy q I J A B (some (.int r)) I J A B := by
  refine M_start rfl rfl (Nat.le_of_ble_eq_true rfl) ?_
  intro p e s m args below meth c H locs C hI ls hl
  have hl : lv_has ls 3 [(0, .ref (q 46)), (1, .int x1), (2, .int x2)] := hl
  rw [sX8_windOf] at hs
  refine lv_aload_n C.1 C.2.1 dX8_windOf_0 rfl (lv_at hl 0 rfl) ?_
  refine mg_1 C hI dX8_windOf_1 ?_
  refine lv_sipush (v := 165) C.1 C.2.1 dX8_windOf_4 (by decide) ?_
  refine lv_iconst (v := 3) C.1 C.2.1 dX8_windOf_7 (by decide) ?_
  refine lv_iload_n C.1 C.2.1 dX8_windOf_8 rfl (lv_at hl 1 rfl) ?_
  refine lv_imul C.1 C.2.1 dX8_windOf_9 ?_
  refine lv_iadd C.1 C.2.1 dX8_windOf_10 ?_
  refine lv_iload_n C.1 C.2.1 dX8_windOf_11 rfl (lv_at hl 2 rfl) ?_
  refine lv_iadd C.1 C.2.1 dX8_windOf_12 ?_
  obtain ⟨hk, hs⟩ := ck_e hs
  refine ma_1 C hI hk dX8_windOf_13 ?_
  obtain rfl := Option.some.inj hs
  exact M_iret C hI dX8_windOf_14

def sX8_eastOf (x0 : Int32) : Option ((Int32)) :=
gv (if x0 = 0 then (10 : Int32) else (if x0 = (1 : Int32) then (7 : Int32) else (if x0 = (7 : Int32) then (7 : Int32) else (if x0 = (4 : Int32) then (-10 : Int32) else (if x0 = (3 : Int32) then (-7 : Int32) else (if x0 = (5 : Int32) then (-7 : Int32) else (0 : Int32))))))) fun v_51 =>
some v_51
set_option maxRecDepth 100000 in
set_option maxHeartbeats 8000000 in
theorem kX8_eastOf (l : Launch) (x0 : Int32) (r : Int32) (hs : sX8_eastOf x0 = some r) : McS l yX8_eastOf cX8_eastOf 1 (some .int) 0 [.int x0] (some (.int r)) := by
  refine S_start rfl (Nat.le_of_ble_eq_true rfl) ?_
  intro p e s m args below meth c H locs C hI ls hl
  have hl : lv_has ls 1 [(0, .int x0)] := hl
  rw [sX8_eastOf] at hs
  refine lv_iload_n C.1 C.2.1 dX8_eastOf_0 rfl (lv_at hl 0 rfl) ?_
  obtain ⟨v_51, ev_51, hs⟩ := gv_ex hs
  have KP_51 : W p l e (rmL 0) s m args below meth c H locs 0 0 (MQ below (fun _ st oc t => oc = .returned (some (.int r)) ∧ t.heap = st.heap) args s 0 0 (fun _ => False)) (F0 m 51 ls [.int v_51]) := by
    obtain rfl := Option.some.inj hs
    exact S_iret C hI dX8_eastOf_51
  refine lv_if_ne (tgt := 9) C.1 C.2.1 dX8_eastOf_1 (by decide) (fun cn => ?_) (fun cn => ?_)
  · have ev_51 := if_f' cn ev_51
    refine lv_iload_n C.1 C.2.1 dX8_eastOf_9 rfl (lv_at hl 0 rfl) ?_
    refine lv_iconst (v := 1) C.1 C.2.1 dX8_eastOf_10 (by decide) ?_
    refine lv_icmp_eq (tgt := 20) C.1 C.2.1 dX8_eastOf_11 (by decide) (fun cn => ?_) (fun cn => ?_)
    · have ev_51 := if_t' cn ev_51
      refine lv_bipush (v := 7) C.1 C.2.1 dX8_eastOf_20 (by decide) ?_
      refine lv_goto (tgt := 51) C.1 C.2.1 dX8_eastOf_22 (by decide) ?_
      subst ev_51
      exact KP_51
    · have ev_51 := if_f' cn ev_51
      refine lv_iload_n C.1 C.2.1 dX8_eastOf_14 rfl (lv_at hl 0 rfl) ?_
      refine lv_bipush (v := 7) C.1 C.2.1 dX8_eastOf_15 (by decide) ?_
      refine lv_icmp_ne (tgt := 25) C.1 C.2.1 dX8_eastOf_17 (by decide) (fun cn => ?_) (fun cn => ?_)
      · have ev_51 := if_f' cn ev_51
        refine lv_iload_n C.1 C.2.1 dX8_eastOf_25 rfl (lv_at hl 0 rfl) ?_
        refine lv_iconst (v := 4) C.1 C.2.1 dX8_eastOf_26 (by decide) ?_
        refine lv_icmp_ne (tgt := 35) C.1 C.2.1 dX8_eastOf_27 (by decide) (fun cn => ?_) (fun cn => ?_)
        · have ev_51 := if_f' cn ev_51
          refine lv_iload_n C.1 C.2.1 dX8_eastOf_35 rfl (lv_at hl 0 rfl) ?_
          refine lv_iconst (v := 3) C.1 C.2.1 dX8_eastOf_36 (by decide) ?_
          refine lv_icmp_eq (tgt := 45) C.1 C.2.1 dX8_eastOf_37 (by decide) (fun cn => ?_) (fun cn => ?_)
          · have ev_51 := if_t' cn ev_51
            refine lv_bipush (v := -7) C.1 C.2.1 dX8_eastOf_45 (by decide) ?_
            refine lv_goto (tgt := 51) C.1 C.2.1 dX8_eastOf_47 (by decide) ?_
            subst ev_51
            exact KP_51
          · have ev_51 := if_f' cn ev_51
            refine lv_iload_n C.1 C.2.1 dX8_eastOf_40 rfl (lv_at hl 0 rfl) ?_
            refine lv_iconst (v := 5) C.1 C.2.1 dX8_eastOf_41 (by decide) ?_
            refine lv_icmp_ne (tgt := 50) C.1 C.2.1 dX8_eastOf_42 (by decide) (fun cn => ?_) (fun cn => ?_)
            · have ev_51 := if_f' cn ev_51
              refine lv_iconst (v := 0) C.1 C.2.1 dX8_eastOf_50 (by decide) ?_
              subst ev_51
              exact KP_51
            · have ev_51 := if_t' cn ev_51
              refine lv_bipush (v := -7) C.1 C.2.1 dX8_eastOf_45 (by decide) ?_
              refine lv_goto (tgt := 51) C.1 C.2.1 dX8_eastOf_47 (by decide) ?_
              subst ev_51
              exact KP_51
        · have ev_51 := if_t' cn ev_51
          refine lv_bipush (v := -10) C.1 C.2.1 dX8_eastOf_30 (by decide) ?_
          refine lv_goto (tgt := 51) C.1 C.2.1 dX8_eastOf_32 (by decide) ?_
          subst ev_51
          exact KP_51
      · have ev_51 := if_t' cn ev_51
        refine lv_bipush (v := 7) C.1 C.2.1 dX8_eastOf_20 (by decide) ?_
        refine lv_goto (tgt := 51) C.1 C.2.1 dX8_eastOf_22 (by decide) ?_
        subst ev_51
        exact KP_51
  · have ev_51 := if_t' cn ev_51
    refine lv_bipush (v := 10) C.1 C.2.1 dX8_eastOf_4 (by decide) ?_
    refine lv_goto (tgt := 51) C.1 C.2.1 dX8_eastOf_6 (by decide) ?_
    subst ev_51
    exact KP_51

def sX8_pulls (x1 : Int32) (x2 : Int32) (I : Nat → Int32) (J : Nat → Int64) (A : Nat → Nat → Int32) (B : Nat → Nat → Int64) : Option ((Nat → Int64)) :=
gv ((x1 / (2 : Int32)) - (x1 / (2 : Int32)) / (4 : Int32) * (4 : Int32)) fun x3_5 =>
ck (inB x3_5 4) <|
gv (B 5 (ix x3_5)) fun x4_12 =>
gv (if x3_5 = 0 then (J 10) else (if x3_5 = (2 : Int32) then (-(J 10)) else (if x3_5 = (1 : Int32) then (J 11) else (-(J 11))))) fun v_55 =>
gv (vp_updL J 13 (((1000000 : Int64) * (J 7)) * x4_12)) fun J =>
ck (inB ((0 : Int32) + x1) 8047) <|
gv (fun (y2_j104 : Int64) (J : Nat → Int64) =>
ck (inB ((0 : Int32) + x1) 8047) <|
gv (vp_updL J 12 (((((((A 1 (ix ((0 : Int32) + x1)))).toInt64) * y2_j104) * (1000 : Int64)) * x4_12) + ((v_55 * (((A 1 (ix ((0 : Int32) + x1)))).toInt64)) * (J 7)))) fun J =>
if x2 = 0 then
(some J)
else
ck (inB ((150 : Int32) + (x1 / (8 : Int32))) 8047) <|
gv (vp_updL J 12 ((J 12) - ((((A 1 (ix ((150 : Int32) + (x1 / (8 : Int32)))))).toInt64) * (J 13)))) fun J =>
some J) fun k_104 =>
if (x1 - x1 / (2 : Int32) * (2 : Int32)) = 0 then
(ck (inB x3_5 4) <|
k_104 (B 6 (ix x3_5)) J)
else
ck (inB x3_5 4) <|
k_104 (-(B 6 (ix x3_5))) J
set_option maxRecDepth 100000 in
set_option maxHeartbeats 8000000 in
theorem kX8_pulls (l : Launch) (D : va_G) (cy : Nat → ClassId) (q : Nat → Nat) (x1 : Int32) (x2 : Int32) (I : Nat → Int32) (J : Nat → Int64) (A : Nat → Nat → Int32) (B : Nat → Nat → Int64) (J2 : Nat → Int64) (hs : sX8_pulls x1 x2 I J A B = some J2) : McI l yX8_pulls cX8_pulls 8 none 0 [.ref (q 46), .int x1, .int x2] D cy q I J A B none I J2 A B := by
  refine M_start rfl rfl (Nat.le_of_ble_eq_true rfl) ?_
  intro p e s m args below meth c H locs C hI ls hl
  have hl : lv_has ls 8 [(0, .ref (q 46)), (1, .int x1), (2, .int x2)] := hl
  rw [sX8_pulls] at hs
  refine lv_iload_n C.1 C.2.1 dX8_pulls_0 rfl (lv_at hl 1 rfl) ?_
  refine lv_iconst (v := 2) C.1 C.2.1 dX8_pulls_1 (by decide) ?_
  refine lv_idiv C.1 C.2.1 dX8_pulls_2 (by decide) ?_
  refine lv_iconst (v := 4) C.1 C.2.1 dX8_pulls_3 (by decide) ?_
  refine lv_irem C.1 C.2.1 dX8_pulls_4 (by decide) ?_
  refine lv_topi (fun x3_5 ex3_5 => ?_)
  have hs := gv_at ex3_5 hs
  refine lv_istore_n (lv' := [(3, .int x3_5), (0, .ref (q 46)), (1, .int x1), (2, .int x2)]) C.1 C.2.1 dX8_pulls_5 rfl hl (by decide) rfl (fun ls hl => ?_)
  refine lv_aload_n C.1 C.2.1 dX8_pulls_6 rfl (lv_at hl 1 rfl) ?_
  refine mg_5 C hI dX8_pulls_7 ?_
  refine lv_iload_n C.1 C.2.1 dX8_pulls_10 rfl (lv_at hl 0 rfl) ?_
  obtain ⟨hk, hs⟩ := ck_e hs
  refine ma_5 C hI hk dX8_pulls_11 ?_
  refine lv_topl (fun x4_12 ex4_12 => ?_)
  have hs := gv_at ex4_12 hs
  refine lv_lstore (lv' := [(4, .long x4_12), (3, .int x3_5), (0, .ref (q 46)), (1, .int x1), (2, .int x2)]) C.1 C.2.1 dX8_pulls_12 hl (by decide) rfl (fun ls hl => ?_)
  refine lv_iload_n C.1 C.2.1 dX8_pulls_14 rfl (lv_at hl 1 rfl) ?_
  obtain ⟨v_55, ev_55, hs⟩ := gv_ex hs
  have KP_55 : W p l e (rmL 0) s m args below meth c H locs 0 0 (MQ below (mQ D cy q none I J2 A B) args s 0 0 (MA q)) (F0 m 55 ls [.long v_55]) := by
    refine lv_lstore (lv' := [(6, .long v_55), (4, .long x4_12), (3, .int x3_5), (0, .ref (q 46)), (1, .int x1), (2, .int x2)]) C.1 C.2.1 dX8_pulls_55 hl (by decide) rfl (fun ls hl => ?_)
    refine lv_aload_n C.1 C.2.1 dX8_pulls_57 rfl (lv_at hl 3 rfl) ?_
    refine lv_ldc2 C.1 C.2.1 C.2.2.2.1 (C.2.2.2.2.1 _ kl_X8_126) dX8_pulls_58 ?_
    refine lv_aload_n C.1 C.2.1 dX8_pulls_61 rfl (lv_at hl 3 rfl) ?_
    refine mg_7 C hI dX8_pulls_62 ?_
    refine lv_lmul C.1 C.2.1 dX8_pulls_65 ?_
    refine lv_lload C.1 C.2.1 dX8_pulls_66 (lv_at hl 1 rfl) ?_
    refine lv_lmul C.1 C.2.1 dX8_pulls_68 ?_
    refine mp_13 C hI dX8_pulls_69 (fun H locs hI => ?_)
    have hs := gv_be hs
    refine lv_aload_n C.1 C.2.1 dX8_pulls_72 rfl (lv_at hl 3 rfl) ?_
    refine lv_aload_n C.1 C.2.1 dX8_pulls_73 rfl (lv_at hl 3 rfl) ?_
    refine mg_1 C hI dX8_pulls_74 ?_
    refine lv_iconst (v := 0) C.1 C.2.1 dX8_pulls_77 (by decide) ?_
    refine lv_iload_n C.1 C.2.1 dX8_pulls_78 rfl (lv_at hl 4 rfl) ?_
    refine lv_iadd C.1 C.2.1 dX8_pulls_79 ?_
    obtain ⟨hk, hs⟩ := ck_e hs
    refine ma_1 C hI hk dX8_pulls_80 ?_
    refine lv_i2l C.1 C.2.1 dX8_pulls_81 rfl ?_
    refine lv_iload_n C.1 C.2.1 dX8_pulls_82 rfl (lv_at hl 4 rfl) ?_
    refine lv_iconst (v := 2) C.1 C.2.1 dX8_pulls_83 (by decide) ?_
    refine lv_irem C.1 C.2.1 dX8_pulls_84 (by decide) ?_
    obtain ⟨k_104, ek_104, hs⟩ := gv_ex hs
    have KJ_104 : ∀ (y2_j104 : Int64) (J : Nat → Int64) (H : Heap) (locs : List Loc) (ls : Array Slot), k_104 y2_j104 J = some J2 → MI D cy s s.heap H locs q I J A B → lv_has ls 8 [(0, .ref (q 46)), (1, .int x1), (2, .int x2), (4, .long x4_12), (6, .long v_55)] → W p l e (rmL 0) s m args below meth c H locs 0 0 (MQ below (mQ D cy q none I J2 A B) args s 0 0 (MA q)) (F0 m 104 ls [.long y2_j104, .long (((A 1 (ix ((0 : Int32) + x1)))).toInt64), .ref (q 46)]) := by
      intro y2_j104 J H locs ls hs hI hl
      rw [ek_104] at hs
      refine lv_lmul C.1 C.2.1 dX8_pulls_104 ?_
      refine lv_ldc2 C.1 C.2.1 C.2.2.2.1 (C.2.2.2.2.1 _ kl_X8_131) dX8_pulls_105 ?_
      refine lv_lmul C.1 C.2.1 dX8_pulls_108 ?_
      refine lv_lload C.1 C.2.1 dX8_pulls_109 (lv_at hl 3 rfl) ?_
      refine lv_lmul C.1 C.2.1 dX8_pulls_111 ?_
      refine lv_lload C.1 C.2.1 dX8_pulls_112 (lv_at hl 4 rfl) ?_
      refine lv_aload_n C.1 C.2.1 dX8_pulls_114 rfl (lv_at hl 0 rfl) ?_
      refine mg_1 C hI dX8_pulls_115 ?_
      refine lv_iconst (v := 0) C.1 C.2.1 dX8_pulls_118 (by decide) ?_
      refine lv_iload_n C.1 C.2.1 dX8_pulls_119 rfl (lv_at hl 1 rfl) ?_
      refine lv_iadd C.1 C.2.1 dX8_pulls_120 ?_
      obtain ⟨hk, hs⟩ := ck_e hs
      refine ma_1 C hI hk dX8_pulls_121 ?_
      refine lv_i2l C.1 C.2.1 dX8_pulls_122 rfl ?_
      refine lv_lmul C.1 C.2.1 dX8_pulls_123 ?_
      refine lv_aload_n C.1 C.2.1 dX8_pulls_124 rfl (lv_at hl 0 rfl) ?_
      refine mg_7 C hI dX8_pulls_125 ?_
      refine lv_lmul C.1 C.2.1 dX8_pulls_128 ?_
      refine lv_ladd C.1 C.2.1 dX8_pulls_129 ?_
      refine mp_12 C hI dX8_pulls_130 (fun H locs hI => ?_)
      have hs := gv_be hs
      refine lv_iload_n C.1 C.2.1 dX8_pulls_133 rfl (lv_at hl 2 rfl) ?_
      refine lv_if_eq (tgt := 165) C.1 C.2.1 dX8_pulls_134 (by decide) (fun cn => ?_) (fun cn => ?_)
      · have hs := if_t cn hs
        obtain rfl := Option.some.inj hs
        exact M_vret C hI dX8_pulls_165
      · have hs := if_f cn hs
        refine lv_aload_n C.1 C.2.1 dX8_pulls_137 rfl (lv_at hl 0 rfl) ?_
        refine lv_dup C.1 C.2.1 dX8_pulls_138 rfl ?_
        refine mg_12 C hI dX8_pulls_139 ?_
        refine lv_aload_n C.1 C.2.1 dX8_pulls_142 rfl (lv_at hl 0 rfl) ?_
        refine mg_1 C hI dX8_pulls_143 ?_
        refine lv_sipush (v := 150) C.1 C.2.1 dX8_pulls_146 (by decide) ?_
        refine lv_iload_n C.1 C.2.1 dX8_pulls_149 rfl (lv_at hl 1 rfl) ?_
        refine lv_bipush (v := 8) C.1 C.2.1 dX8_pulls_150 (by decide) ?_
        refine lv_idiv C.1 C.2.1 dX8_pulls_152 (by decide) ?_
        refine lv_iadd C.1 C.2.1 dX8_pulls_153 ?_
        obtain ⟨hk, hs⟩ := ck_e hs
        refine ma_1 C hI hk dX8_pulls_154 ?_
        refine lv_i2l C.1 C.2.1 dX8_pulls_155 rfl ?_
        refine lv_aload_n C.1 C.2.1 dX8_pulls_156 rfl (lv_at hl 0 rfl) ?_
        refine mg_13 C hI dX8_pulls_157 ?_
        refine lv_lmul C.1 C.2.1 dX8_pulls_160 ?_
        refine lv_lsub C.1 C.2.1 dX8_pulls_161 ?_
        refine mp_12 C hI dX8_pulls_162 (fun H locs hI => ?_)
        have hs := gv_be hs
        obtain rfl := Option.some.inj hs
        exact M_vret C hI dX8_pulls_165
    refine lv_if_ne (tgt := 97) C.1 C.2.1 dX8_pulls_85 (by decide) (fun cn => ?_) (fun cn => ?_)
    · have hs := if_f cn hs
      refine lv_aload_n C.1 C.2.1 dX8_pulls_97 rfl (lv_at hl 3 rfl) ?_
      refine mg_6 C hI dX8_pulls_98 ?_
      refine lv_iload_n C.1 C.2.1 dX8_pulls_101 rfl (lv_at hl 2 rfl) ?_
      obtain ⟨hk, hs⟩ := ck_e hs
      refine ma_6 C hI hk dX8_pulls_102 ?_
      refine lv_lneg C.1 C.2.1 dX8_pulls_103 ?_
      exact KJ_104 _ _ _ _ _ hs hI (lv_sub hl [3, 4, 5, 1, 0] rfl)
    · have hs := if_t cn hs
      refine lv_aload_n C.1 C.2.1 dX8_pulls_88 rfl (lv_at hl 3 rfl) ?_
      refine mg_6 C hI dX8_pulls_89 ?_
      refine lv_iload_n C.1 C.2.1 dX8_pulls_92 rfl (lv_at hl 2 rfl) ?_
      obtain ⟨hk, hs⟩ := ck_e hs
      refine ma_6 C hI hk dX8_pulls_93 ?_
      refine lv_goto (tgt := 104) C.1 C.2.1 dX8_pulls_94 (by decide) ?_
      exact KJ_104 _ _ _ _ _ hs hI (lv_sub hl [3, 4, 5, 1, 0] rfl)
  refine lv_if_ne (tgt := 25) C.1 C.2.1 dX8_pulls_15 (by decide) (fun cn => ?_) (fun cn => ?_)
  · have ev_55 := if_f' cn ev_55
    refine lv_iload_n C.1 C.2.1 dX8_pulls_25 rfl (lv_at hl 1 rfl) ?_
    refine lv_iconst (v := 2) C.1 C.2.1 dX8_pulls_26 (by decide) ?_
    refine lv_icmp_ne (tgt := 38) C.1 C.2.1 dX8_pulls_27 (by decide) (fun cn => ?_) (fun cn => ?_)
    · have ev_55 := if_f' cn ev_55
      refine lv_iload_n C.1 C.2.1 dX8_pulls_38 rfl (lv_at hl 1 rfl) ?_
      refine lv_iconst (v := 1) C.1 C.2.1 dX8_pulls_39 (by decide) ?_
      refine lv_icmp_ne (tgt := 50) C.1 C.2.1 dX8_pulls_40 (by decide) (fun cn => ?_) (fun cn => ?_)
      · have ev_55 := if_f' cn ev_55
        refine lv_aload_n C.1 C.2.1 dX8_pulls_50 rfl (lv_at hl 2 rfl) ?_
        refine mg_11 C hI dX8_pulls_51 ?_
        refine lv_lneg C.1 C.2.1 dX8_pulls_54 ?_
        subst ev_55
        exact KP_55
      · have ev_55 := if_t' cn ev_55
        refine lv_aload_n C.1 C.2.1 dX8_pulls_43 rfl (lv_at hl 2 rfl) ?_
        refine mg_11 C hI dX8_pulls_44 ?_
        refine lv_goto (tgt := 55) C.1 C.2.1 dX8_pulls_47 (by decide) ?_
        subst ev_55
        exact KP_55
    · have ev_55 := if_t' cn ev_55
      refine lv_aload_n C.1 C.2.1 dX8_pulls_30 rfl (lv_at hl 2 rfl) ?_
      refine mg_10 C hI dX8_pulls_31 ?_
      refine lv_lneg C.1 C.2.1 dX8_pulls_34 ?_
      refine lv_goto (tgt := 55) C.1 C.2.1 dX8_pulls_35 (by decide) ?_
      subst ev_55
      exact KP_55
  · have ev_55 := if_t' cn ev_55
    refine lv_aload_n C.1 C.2.1 dX8_pulls_18 rfl (lv_at hl 2 rfl) ?_
    refine mg_10 C hI dX8_pulls_19 ?_
    refine lv_goto (tgt := 55) C.1 C.2.1 dX8_pulls_22 (by decide) ?_
    subst ev_55
    exact KP_55

def sX8_thousand (x0 : Int64) (x2 : Int64) : Option ((Int64)) :=
ck (nzL x2) <|
ck (nzL x2) <|
ck (nzL x2) <|
some (((x0 / x2) * (1000 : Int64)) + (((x0 - x0 / x2 * x2) * (1000 : Int64)) / x2))
set_option maxRecDepth 100000 in
set_option maxHeartbeats 8000000 in
theorem kX8_thousand (l : Launch) (x0 : Int64) (x2 : Int64) (r : Int64) (hs : sX8_thousand x0 x2 = some r) : McS l yX8_thousand cX8_thousand 4 (some .long) 0 [.long x0, .long x2] (some (.long r)) := by
  refine S_start rfl (Nat.le_of_ble_eq_true rfl) ?_
  intro p e s m args below meth c H locs C hI ls hl
  have hl : lv_has ls 4 [(0, .long x0), (2, .long x2)] := hl
  rw [sX8_thousand] at hs
  refine lv_lload_n C.1 C.2.1 dX8_thousand_0 rfl (lv_at hl 0 rfl) ?_
  refine lv_lload_n C.1 C.2.1 dX8_thousand_1 rfl (lv_at hl 1 rfl) ?_
  obtain ⟨hz, hs⟩ := ck_e hs
  refine lv_ldiv C.1 C.2.1 dX8_thousand_2 (nzL_e hz) ?_
  refine lv_ldc2 C.1 C.2.1 C.2.2.2.1 (C.2.2.2.2.1 _ kl_X8_131) dX8_thousand_3 ?_
  refine lv_lmul C.1 C.2.1 dX8_thousand_6 ?_
  refine lv_lload_n C.1 C.2.1 dX8_thousand_7 rfl (lv_at hl 0 rfl) ?_
  refine lv_lload_n C.1 C.2.1 dX8_thousand_8 rfl (lv_at hl 1 rfl) ?_
  obtain ⟨hz, hs⟩ := ck_e hs
  refine lv_lrem C.1 C.2.1 dX8_thousand_9 (nzL_e hz) ?_
  refine lv_ldc2 C.1 C.2.1 C.2.2.2.1 (C.2.2.2.2.1 _ kl_X8_131) dX8_thousand_10 ?_
  refine lv_lmul C.1 C.2.1 dX8_thousand_13 ?_
  refine lv_lload_n C.1 C.2.1 dX8_thousand_14 rfl (lv_at hl 1 rfl) ?_
  obtain ⟨hz, hs⟩ := ck_e hs
  refine lv_ldiv C.1 C.2.1 dX8_thousand_15 (nzL_e hz) ?_
  refine lv_ladd C.1 C.2.1 dX8_thousand_16 ?_
  obtain rfl := Option.some.inj hs
  exact S_lret C hI dX8_thousand_17

def lX8_noneGone_2 : Nat → Int32 → (Nat → Int32) → (Nat → Int64) → (Nat → Nat → Int32) → (Nat → Nat → Int64) → Option ((Nat → Nat → Int32))
  | 0, _, _, _, _, _ => none
  | n + 1, x1, I, J, A, B =>
    if (48 : Int32) ≤ x1 then
    (some A)
    else
    ck (inB x1 48) <|
    gv (va_up A 4 (upd (A 4) (ix x1) (vp_nar .boolean (0 : Int32)))) fun A =>
    gv (x1 + 1) fun x1_15 =>
    lX8_noneGone_2 n x1_15 I J A B
def sX8_noneGone (I : Nat → Int32) (J : Nat → Int64) (A : Nat → Nat → Int32) (B : Nat → Nat → Int64) : Option ((Nat → Nat → Int32)) :=
(lX8_noneGone_2 FU (0 : Int32) I J A B).bind fun A =>
some A
set_option maxRecDepth 100000 in
set_option maxHeartbeats 8000000 in
theorem kX8_noneGone (l : Launch) (D : va_G) (cy : Nat → ClassId) (q : Nat → Nat) (I : Nat → Int32) (J : Nat → Int64) (A : Nat → Nat → Int32) (B : Nat → Nat → Int64) (A2 : Nat → Nat → Int32) (hs : sX8_noneGone I J A B = some A2) : McI l yX8_noneGone cX8_noneGone 2 none 0 [.ref (q 46)] D cy q I J A B none I J A2 B := by
  refine M_start rfl rfl (Nat.le_of_ble_eq_true rfl) ?_
  intro p e s m args below meth c H locs C hI ls hl
  have hl : lv_has ls 2 [(0, .ref (q 46))] := hl
  rw [sX8_noneGone] at hs
  refine lv_iconst (v := 0) C.1 C.2.1 dX8_noneGone_0 (by decide) ?_
  refine lv_istore_n (lv' := [(1, .int (0 : Int32)), (0, .ref (q 46))]) C.1 C.2.1 dX8_noneGone_1 rfl hl (by decide) rfl (fun ls hl => ?_)
  have KL_2 : ∀ (n : Nat) (x1 : Int32) (I : Nat → Int32) (J : Nat → Int64) (A : Nat → Nat → Int32) (B : Nat → Nat → Int64) (o : (Nat → Nat → Int32)) (Q : State → Prop) (H : Heap) (locs : List Loc) (ls : Array Slot), lX8_noneGone_2 n x1 I J A B = some o → MI D cy s s.heap H locs q I J A B → lv_has ls 2 [(0, .ref (q 46)), (1, .int x1)] → (∀ (A_0 : Nat → Nat → Int32) (H : Heap) (locs : List Loc) (ls : Array Slot), o = A_0 → MI D cy s s.heap H locs q I J A_0 B → lv_has ls 2 [] → W p l e (rmL 0) s m args below meth c H locs 0 0 Q (F0 m 21 ls [])) → W p l e (rmL 0) s m args below meth c H locs 0 0 Q (F0 m 2 ls []) := by
    intro n; induction n with
    | zero => intro x1 I J A B o Q H locs ls hs; rw [lX8_noneGone_2] at hs; cases hs
    | succ n ih =>
      intro x1 I J A B o Q H locs ls hs hI hl kk0
      rw [lX8_noneGone_2] at hs
      refine lv_iload_n C.1 C.2.1 dX8_noneGone_2 rfl (lv_at hl 1 rfl) ?_
      refine lv_bipush (v := 48) C.1 C.2.1 dX8_noneGone_3 (by decide) ?_
      refine lv_icmp_ge (tgt := 21) C.1 C.2.1 dX8_noneGone_5 (by decide) (fun cn => ?_) (fun cn => ?_)
      · have hs := if_t cn hs
        have eo := (Option.some.inj hs).symm
        exact kk0 _ _ _ _ eo hI (lv_sub hl [] rfl)
      · have hs := if_f cn hs
        refine lv_aload_n C.1 C.2.1 dX8_noneGone_8 rfl (lv_at hl 0 rfl) ?_
        refine mg_4 C hI dX8_noneGone_9 ?_
        refine lv_iload_n C.1 C.2.1 dX8_noneGone_12 rfl (lv_at hl 1 rfl) ?_
        refine lv_iconst (v := 0) C.1 C.2.1 dX8_noneGone_13 (by decide) ?_
        obtain ⟨hk, hs⟩ := ck_e hs
        refine ms_4 C hI hk dX8_noneGone_14 (fun H locs hI => ?_)
        have hs := gv_be hs
        obtain ⟨x1_15, ex1_15⟩ : ∃ y : Int32, y = (x1 + 1) := ⟨_, rfl⟩
        have hs := gv_at ex1_15 hs
        refine lv_iinc (v := x1_15) (lv' := [(1, .int x1_15), (0, .ref (q 46))]) C.1 C.2.1 dX8_noneGone_15 hl (k := 1) rfl (by rw [ex1_15]; rfl) (by decide) rfl (fun ls hl => ?_)
        refine lv_goto (tgt := 2) C.1 C.2.1 dX8_noneGone_18 (by decide) ?_
        exact ih _ _ _ _ _ _ _ _ _ _ hs hI (lv_sub hl [1, 0] rfl) kk0
  obtain ⟨A_L, hL, hs⟩ := bd_e hs
  refine KL_2 FU _ _ _ _ _ _ _ _ _ _ hL hI (lv_sub hl [1, 0] rfl) (fun z0 H locs ls eo hI hl => ?_)
  subst eo
  obtain rfl := Option.some.inj hs
  exact M_vret C hI dX8_noneGone_21

def lX8_feed_55 : Nat → Int32 → (Nat → Int32) → (Nat → Int64) → (Nat → Nat → Int32) → (Nat → Nat → Int64) → Option ((Nat → Nat → Int32))
  | 0, _, _, _, _, _ => none
  | n + 1, x6, I, J, A, B =>
    if (20 : Int32) ≤ x6 then
    (some A)
    else
    ck (inB (x6 / (4 : Int32)) 5) <|
    ck (inB ((I 20) + x6) 400) <|
    gv (va_up A 18 (upd (A 18) (ix ((I 20) + x6)) (vp_nar .byte (((A 19 (ix (x6 / (4 : Int32)))) >>> (((24 : Int32) - ((8 : Int32) * (x6 - x6 / (4 : Int32) * (4 : Int32)))) &&& 31)).toInt8.toInt32)))) fun A =>
    gv (x6 + 1) fun x6_95 =>
    lX8_feed_55 n x6_95 I J A B
def sX8_feed (x1 : Int32) (x2 : Int32) (x3 : Int32) (x4 : Int32) (x5 : Int32) (I : Nat → Int32) (J : Nat → Int64) (A : Nat → Nat → Int32) (B : Nat → Nat → Int64) : Option ((Int32) × (Nat → Int32) × (Nat → Nat → Int32)) :=
if ((I 20) + (20 : Int32)) ≤ (400 : Int32) then
(gv (va_up A 19 (upd (A 19) (ix (0 : Int32)) x1)) fun A =>
gv (va_up A 19 (upd (A 19) (ix (1 : Int32)) x2)) fun A =>
gv (va_up A 19 (upd (A 19) (ix (2 : Int32)) x3)) fun A =>
gv (va_up A 19 (upd (A 19) (ix (3 : Int32)) x4)) fun A =>
gv (va_up A 19 (upd (A 19) (ix (4 : Int32)) x5)) fun A =>
(lX8_feed_55 FU (0 : Int32) I J A B).bind fun A =>
gv (upd I 20 ((I 20) + (20 : Int32))) fun I =>
some ((I 20), I, A))
else
some ((-1 : Int32), I, A)
set_option maxRecDepth 100000 in
set_option maxHeartbeats 8000000 in
theorem kX8_feed (l : Launch) (D : va_G) (cy : Nat → ClassId) (q : Nat → Nat) (x1 : Int32) (x2 : Int32) (x3 : Int32) (x4 : Int32) (x5 : Int32) (I : Nat → Int32) (J : Nat → Int64) (A : Nat → Nat → Int32) (B : Nat → Nat → Int64) (r : Int32) (I2 : Nat → Int32) (A2 : Nat → Nat → Int32) (hs : sX8_feed x1 x2 x3 x4 x5 I J A B = some (r, I2, A2)) : McI l yX8_feed cX8_feed 7 (some .int) 0 [.ref (q 46), .int x1, .int x2, .int x3, .int x4, .int x5] D cy q I J A B (some (.int r)) I2 J A2 B := by
  refine M_start rfl rfl (Nat.le_of_ble_eq_true rfl) ?_
  intro p e s m args below meth c H locs C hI ls hl
  have hl : lv_has ls 7 [(0, .ref (q 46)), (1, .int x1), (2, .int x2), (3, .int x3), (4, .int x4), (5, .int x5)] := hl
  rw [sX8_feed] at hs
  refine lv_aload_n C.1 C.2.1 dX8_feed_0 rfl (lv_at hl 0 rfl) ?_
  refine mg_20 C hI dX8_feed_1 ?_
  refine lv_bipush (v := 20) C.1 C.2.1 dX8_feed_4 (by decide) ?_
  refine lv_iadd C.1 C.2.1 dX8_feed_6 ?_
  refine lv_sipush (v := 400) C.1 C.2.1 dX8_feed_7 (by decide) ?_
  refine lv_icmp_le (tgt := 15) C.1 C.2.1 dX8_feed_10 (by decide) (fun cn => ?_) (fun cn => ?_)
  · have hs := if_t cn hs
    refine lv_aload_n C.1 C.2.1 dX8_feed_15 rfl (lv_at hl 0 rfl) ?_
    refine mg_19 C hI dX8_feed_16 ?_
    refine lv_iconst (v := 0) C.1 C.2.1 dX8_feed_19 (by decide) ?_
    refine lv_iload_n C.1 C.2.1 dX8_feed_20 rfl (lv_at hl 1 rfl) ?_
    refine ms_19 C hI (by decide) dX8_feed_21 (fun H locs hI => ?_)
    have hs := gv_be hs
    refine lv_aload_n C.1 C.2.1 dX8_feed_22 rfl (lv_at hl 0 rfl) ?_
    refine mg_19 C hI dX8_feed_23 ?_
    refine lv_iconst (v := 1) C.1 C.2.1 dX8_feed_26 (by decide) ?_
    refine lv_iload_n C.1 C.2.1 dX8_feed_27 rfl (lv_at hl 2 rfl) ?_
    refine ms_19 C hI (by decide) dX8_feed_28 (fun H locs hI => ?_)
    have hs := gv_be hs
    refine lv_aload_n C.1 C.2.1 dX8_feed_29 rfl (lv_at hl 0 rfl) ?_
    refine mg_19 C hI dX8_feed_30 ?_
    refine lv_iconst (v := 2) C.1 C.2.1 dX8_feed_33 (by decide) ?_
    refine lv_iload_n C.1 C.2.1 dX8_feed_34 rfl (lv_at hl 3 rfl) ?_
    refine ms_19 C hI (by decide) dX8_feed_35 (fun H locs hI => ?_)
    have hs := gv_be hs
    refine lv_aload_n C.1 C.2.1 dX8_feed_36 rfl (lv_at hl 0 rfl) ?_
    refine mg_19 C hI dX8_feed_37 ?_
    refine lv_iconst (v := 3) C.1 C.2.1 dX8_feed_40 (by decide) ?_
    refine lv_iload C.1 C.2.1 dX8_feed_41 (lv_at hl 4 rfl) ?_
    refine ms_19 C hI (by decide) dX8_feed_43 (fun H locs hI => ?_)
    have hs := gv_be hs
    refine lv_aload_n C.1 C.2.1 dX8_feed_44 rfl (lv_at hl 0 rfl) ?_
    refine mg_19 C hI dX8_feed_45 ?_
    refine lv_iconst (v := 4) C.1 C.2.1 dX8_feed_48 (by decide) ?_
    refine lv_iload C.1 C.2.1 dX8_feed_49 (lv_at hl 5 rfl) ?_
    refine ms_19 C hI (by decide) dX8_feed_51 (fun H locs hI => ?_)
    have hs := gv_be hs
    refine lv_iconst (v := 0) C.1 C.2.1 dX8_feed_52 (by decide) ?_
    refine lv_istore (lv' := [(6, .int (0 : Int32)), (0, .ref (q 46)), (1, .int x1), (2, .int x2), (3, .int x3), (4, .int x4), (5, .int x5)]) C.1 C.2.1 dX8_feed_53 hl (by decide) rfl (fun ls hl => ?_)
    have KL_55 : ∀ (n : Nat) (x6 : Int32) (I : Nat → Int32) (J : Nat → Int64) (A : Nat → Nat → Int32) (B : Nat → Nat → Int64) (o : (Nat → Nat → Int32)) (Q : State → Prop) (H : Heap) (locs : List Loc) (ls : Array Slot), lX8_feed_55 n x6 I J A B = some o → MI D cy s s.heap H locs q I J A B → lv_has ls 7 [(0, .ref (q 46)), (6, .int x6)] → (∀ (A_0 : Nat → Nat → Int32) (H : Heap) (locs : List Loc) (ls : Array Slot), o = A_0 → MI D cy s s.heap H locs q I J A_0 B → lv_has ls 7 [(0, .ref (q 46))] → W p l e (rmL 0) s m args below meth c H locs 0 0 Q (F0 m 101 ls [])) → W p l e (rmL 0) s m args below meth c H locs 0 0 Q (F0 m 55 ls []) := by
      intro n; induction n with
      | zero => intro x6 I J A B o Q H locs ls hs; rw [lX8_feed_55] at hs; cases hs
      | succ n ih =>
        intro x6 I J A B o Q H locs ls hs hI hl kk0
        rw [lX8_feed_55] at hs
        refine lv_iload C.1 C.2.1 dX8_feed_55 (lv_at hl 1 rfl) ?_
        refine lv_bipush (v := 20) C.1 C.2.1 dX8_feed_57 (by decide) ?_
        refine lv_icmp_ge (tgt := 101) C.1 C.2.1 dX8_feed_59 (by decide) (fun cn => ?_) (fun cn => ?_)
        · have hs := if_t cn hs
          have eo := (Option.some.inj hs).symm
          exact kk0 _ _ _ _ eo hI (lv_sub hl [0] rfl)
        · have hs := if_f cn hs
          refine lv_aload_n C.1 C.2.1 dX8_feed_62 rfl (lv_at hl 0 rfl) ?_
          refine mg_18 C hI dX8_feed_63 ?_
          refine lv_aload_n C.1 C.2.1 dX8_feed_66 rfl (lv_at hl 0 rfl) ?_
          refine mg_20 C hI dX8_feed_67 ?_
          refine lv_iload C.1 C.2.1 dX8_feed_70 (lv_at hl 1 rfl) ?_
          refine lv_iadd C.1 C.2.1 dX8_feed_72 ?_
          refine lv_aload_n C.1 C.2.1 dX8_feed_73 rfl (lv_at hl 0 rfl) ?_
          refine mg_19 C hI dX8_feed_74 ?_
          refine lv_iload C.1 C.2.1 dX8_feed_77 (lv_at hl 1 rfl) ?_
          refine lv_iconst (v := 4) C.1 C.2.1 dX8_feed_79 (by decide) ?_
          refine lv_idiv C.1 C.2.1 dX8_feed_80 (by decide) ?_
          obtain ⟨hk, hs⟩ := ck_e hs
          refine ma_19 C hI hk dX8_feed_81 ?_
          refine lv_bipush (v := 24) C.1 C.2.1 dX8_feed_82 (by decide) ?_
          refine lv_bipush (v := 8) C.1 C.2.1 dX8_feed_84 (by decide) ?_
          refine lv_iload C.1 C.2.1 dX8_feed_86 (lv_at hl 1 rfl) ?_
          refine lv_iconst (v := 4) C.1 C.2.1 dX8_feed_88 (by decide) ?_
          refine lv_irem C.1 C.2.1 dX8_feed_89 (by decide) ?_
          refine lv_imul C.1 C.2.1 dX8_feed_90 ?_
          refine lv_isub C.1 C.2.1 dX8_feed_91 ?_
          refine lv_ishr C.1 C.2.1 dX8_feed_92 ?_
          refine lv_i2b C.1 C.2.1 dX8_feed_93 rfl ?_
          obtain ⟨hk, hs⟩ := ck_e hs
          refine ms_18 C hI hk dX8_feed_94 (fun H locs hI => ?_)
          have hs := gv_be hs
          obtain ⟨x6_95, ex6_95⟩ : ∃ y : Int32, y = (x6 + 1) := ⟨_, rfl⟩
          have hs := gv_at ex6_95 hs
          refine lv_iinc (v := x6_95) (lv' := [(6, .int x6_95), (0, .ref (q 46))]) C.1 C.2.1 dX8_feed_95 hl (k := 1) rfl (by rw [ex6_95]; rfl) (by decide) rfl (fun ls hl => ?_)
          refine lv_goto (tgt := 55) C.1 C.2.1 dX8_feed_98 (by decide) ?_
          exact ih _ _ _ _ _ _ _ _ _ _ hs hI (lv_sub hl [1, 0] rfl) kk0
    obtain ⟨A_L, hL, hs⟩ := bd_e hs
    refine KL_55 FU _ _ _ _ _ _ _ _ _ _ hL hI (lv_sub hl [1, 0] rfl) (fun z0 H locs ls eo hI hl => ?_)
    subst eo
    refine lv_aload_n C.1 C.2.1 dX8_feed_101 rfl (lv_at hl 0 rfl) ?_
    refine lv_dup C.1 C.2.1 dX8_feed_102 rfl ?_
    refine mg_20 C hI dX8_feed_103 ?_
    refine lv_bipush (v := 20) C.1 C.2.1 dX8_feed_106 (by decide) ?_
    refine lv_iadd C.1 C.2.1 dX8_feed_108 ?_
    refine mp_20 C hI dX8_feed_109 (fun H locs hI => ?_)
    have hs := gv_be hs
    refine lv_aload_n C.1 C.2.1 dX8_feed_112 rfl (lv_at hl 0 rfl) ?_
    refine mg_20 C hI dX8_feed_113 ?_
    obtain ⟨rfl, rfl, rfl⟩ := so3 hs
    exact M_iret C hI dX8_feed_116
  · have hs := if_f cn hs
    refine lv_iconst (v := -1) C.1 C.2.1 dX8_feed_13 (by decide) ?_
    obtain ⟨rfl, rfl, rfl⟩ := so3 hs
    exact M_iret C hI dX8_feed_14

def sX8_isSmall (x0 : Int32) : Option ((Int32)) :=
gv (if x0 < (97 : Int32) then (0 : Int32) else (if (122 : Int32) < x0 then (0 : Int32) else (1 : Int32))) fun v_17 =>
some v_17
set_option maxRecDepth 100000 in
set_option maxHeartbeats 8000000 in
theorem kX8_isSmall (l : Launch) (x0 : Int32) (r : Int32) (hs : sX8_isSmall x0 = some r) : McS l yX8_isSmall cX8_isSmall 1 (some .boolean) 0 [.int x0] (some (.int r)) := by
  refine S_start rfl (Nat.le_of_ble_eq_true rfl) ?_
  intro p e s m args below meth c H locs C hI ls hl
  have hl : lv_has ls 1 [(0, .int x0)] := hl
  rw [sX8_isSmall] at hs
  refine lv_iload_n C.1 C.2.1 dX8_isSmall_0 rfl (lv_at hl 0 rfl) ?_
  refine lv_bipush (v := 97) C.1 C.2.1 dX8_isSmall_1 (by decide) ?_
  obtain ⟨v_17, ev_17, hs⟩ := gv_ex hs
  have KP_17 : W p l e (rmL 0) s m args below meth c H locs 0 0 (MQ below (fun _ st oc t => oc = .returned (some (.int r)) ∧ t.heap = st.heap) args s 0 0 (fun _ => False)) (F0 m 17 ls [.int v_17]) := by
    obtain rfl := Option.some.inj hs
    exact S_zret C hI (isB_ev ev_17 (by (repeat' split) <;> decide)) dX8_isSmall_17
  refine lv_icmp_lt (tgt := 16) C.1 C.2.1 dX8_isSmall_3 (by decide) (fun cn => ?_) (fun cn => ?_)
  · have ev_17 := if_t' cn ev_17
    refine lv_iconst (v := 0) C.1 C.2.1 dX8_isSmall_16 (by decide) ?_
    subst ev_17
    exact KP_17
  · have ev_17 := if_f' cn ev_17
    refine lv_iload_n C.1 C.2.1 dX8_isSmall_6 rfl (lv_at hl 0 rfl) ?_
    refine lv_bipush (v := 122) C.1 C.2.1 dX8_isSmall_7 (by decide) ?_
    refine lv_icmp_gt (tgt := 16) C.1 C.2.1 dX8_isSmall_9 (by decide) (fun cn => ?_) (fun cn => ?_)
    · have ev_17 := if_t' cn ev_17
      refine lv_iconst (v := 0) C.1 C.2.1 dX8_isSmall_16 (by decide) ?_
      subst ev_17
      exact KP_17
    · have ev_17 := if_f' cn ev_17
      refine lv_iconst (v := 1) C.1 C.2.1 dX8_isSmall_12 (by decide) ?_
      refine lv_goto (tgt := 17) C.1 C.2.1 dX8_isSmall_13 (by decide) ?_
      subst ev_17
      exact KP_17

def sX8_isDigit (x0 : Int32) : Option ((Int32)) :=
gv (if x0 < (48 : Int32) then (0 : Int32) else (if (57 : Int32) < x0 then (0 : Int32) else (1 : Int32))) fun v_17 =>
some v_17
set_option maxRecDepth 100000 in
set_option maxHeartbeats 8000000 in
theorem kX8_isDigit (l : Launch) (x0 : Int32) (r : Int32) (hs : sX8_isDigit x0 = some r) : McS l yX8_isDigit cX8_isDigit 1 (some .boolean) 0 [.int x0] (some (.int r)) := by
  refine S_start rfl (Nat.le_of_ble_eq_true rfl) ?_
  intro p e s m args below meth c H locs C hI ls hl
  have hl : lv_has ls 1 [(0, .int x0)] := hl
  rw [sX8_isDigit] at hs
  refine lv_iload_n C.1 C.2.1 dX8_isDigit_0 rfl (lv_at hl 0 rfl) ?_
  refine lv_bipush (v := 48) C.1 C.2.1 dX8_isDigit_1 (by decide) ?_
  obtain ⟨v_17, ev_17, hs⟩ := gv_ex hs
  have KP_17 : W p l e (rmL 0) s m args below meth c H locs 0 0 (MQ below (fun _ st oc t => oc = .returned (some (.int r)) ∧ t.heap = st.heap) args s 0 0 (fun _ => False)) (F0 m 17 ls [.int v_17]) := by
    obtain rfl := Option.some.inj hs
    exact S_zret C hI (isB_ev ev_17 (by (repeat' split) <;> decide)) dX8_isDigit_17
  refine lv_icmp_lt (tgt := 16) C.1 C.2.1 dX8_isDigit_3 (by decide) (fun cn => ?_) (fun cn => ?_)
  · have ev_17 := if_t' cn ev_17
    refine lv_iconst (v := 0) C.1 C.2.1 dX8_isDigit_16 (by decide) ?_
    subst ev_17
    exact KP_17
  · have ev_17 := if_f' cn ev_17
    refine lv_iload_n C.1 C.2.1 dX8_isDigit_6 rfl (lv_at hl 0 rfl) ?_
    refine lv_bipush (v := 57) C.1 C.2.1 dX8_isDigit_7 (by decide) ?_
    refine lv_icmp_gt (tgt := 16) C.1 C.2.1 dX8_isDigit_9 (by decide) (fun cn => ?_) (fun cn => ?_)
    · have ev_17 := if_t' cn ev_17
      refine lv_iconst (v := 0) C.1 C.2.1 dX8_isDigit_16 (by decide) ?_
      subst ev_17
      exact KP_17
    · have ev_17 := if_f' cn ev_17
      refine lv_iconst (v := 1) C.1 C.2.1 dX8_isDigit_12 (by decide) ?_
      refine lv_goto (tgt := 17) C.1 C.2.1 dX8_isDigit_13 (by decide) ?_
      subst ev_17
      exact KP_17

def lX8_wordOf_18 : Nat → Int32 → Int32 → Int32 → Int32 → Int32 → (Nat → Int32) → (Nat → Int64) → (Nat → Nat → Int32) → (Nat → Nat → Int64) → Option (Int32)
  | 0, _, _, _, _, _, _, _, _, _ => none
  | n + 1, x1, x2, x3, x4, x5, I, J, A, B =>
    ck (inB (x4 + x5) 107) <|
    if (A 17 (ix (x4 + x5))) = (32 : Int32) then
    (some x5)
    else
    gv (x5 + 1) fun x5_33 =>
    lX8_wordOf_18 n x1 x2 x3 x4 x5_33 I J A B
def lX8_wordOf_57 : Nat → Int32 → Int32 → Int32 → Int32 → Int32 → Int32 → Int32 → (Nat → Int32) → (Nat → Int64) → (Nat → Nat → Int32) → (Nat → Nat → Int64) → Option (Int32)
  | 0, _, _, _, _, _, _, _, _, _, _, _ => none
  | n + 1, x1, x2, x3, x4, x5, x6, x7, I, J, A, B =>
    if x5 ≤ x7 then
    (some x6)
    else
    if x6 = 0 then
    (some x6)
    else
    ck (inB (x4 + x7) 107) <|
    ck (inB (x1 + x7) 400) <|
    gv (if (A 17 (ix (x4 + x7))) = (A 18 (ix (x1 + x7))) then (1 : Int32) else (0 : Int32)) fun v_96 =>
    gv (x7 + 1) fun x7_98 =>
    lX8_wordOf_57 n x1 x2 x3 x4 x5 v_96 x7_98 I J A B
def lX8_wordOf_5 : Nat → Int32 → Int32 → Int32 → Int32 → (Nat → Int32) → (Nat → Int64) → (Nat → Nat → Int32) → (Nat → Nat → Int64) → Option ((Int32) ⊕ (Unit))
  | 0, _, _, _, _, _, _, _, _ => none
  | n + 1, x1, x2, x3, x4, I, J, A, B =>
    if (107 : Int32) ≤ x4 then
    (some (.inr ()))
    else
    (lX8_wordOf_18 FU x1 x2 x3 x4 (0 : Int32) I J A B).bind fun x5_18 =>
    gv (if x5_18 = (x2 - x1) then (1 : Int32) else (0 : Int32)) fun v_52 =>
    (lX8_wordOf_57 FU x1 x2 x3 x4 x5_18 v_52 (0 : Int32) I J A B).bind fun x6_57 =>
    if x6_57 = 0 then
    (gv (x4 + (x5_18 + (1 : Int32))) fun x4_118 =>
    gv (x3 + 1) fun x3_120 =>
    lX8_wordOf_5 n x1 x2 x3_120 x4_118 I J A B)
    else
    some (.inl x3)
def sX8_wordOf (x1 : Int32) (x2 : Int32) (I : Nat → Int32) (J : Nat → Int64) (A : Nat → Nat → Int32) (B : Nat → Nat → Int64) : Option ((Int32)) :=
(lX8_wordOf_5 FU x1 x2 (1 : Int32) (0 : Int32) I J A B).bind fun o_5 => match o_5 with
| .inl x3_5 =>
some x3_5
| .inr _ =>
some (0 : Int32)
set_option maxRecDepth 100000 in
set_option maxHeartbeats 8000000 in
theorem kX8_wordOf (l : Launch) (D : va_G) (cy : Nat → ClassId) (q : Nat → Nat) (x1 : Int32) (x2 : Int32) (I : Nat → Int32) (J : Nat → Int64) (A : Nat → Nat → Int32) (B : Nat → Nat → Int64) (r : Int32) (hs : sX8_wordOf x1 x2 I J A B = some r) : McI l yX8_wordOf cX8_wordOf 8 (some .int) 0 [.ref (q 46), .int x1, .int x2] D cy q I J A B (some (.int r)) I J A B := by
  refine M_start rfl rfl (Nat.le_of_ble_eq_true rfl) ?_
  intro p e s m args below meth c H locs C hI ls hl
  have hl : lv_has ls 8 [(0, .ref (q 46)), (1, .int x1), (2, .int x2)] := hl
  rw [sX8_wordOf] at hs
  refine lv_iconst (v := 1) C.1 C.2.1 dX8_wordOf_0 (by decide) ?_
  refine lv_istore_n (lv' := [(3, .int (1 : Int32)), (0, .ref (q 46)), (1, .int x1), (2, .int x2)]) C.1 C.2.1 dX8_wordOf_1 rfl hl (by decide) rfl (fun ls hl => ?_)
  refine lv_iconst (v := 0) C.1 C.2.1 dX8_wordOf_2 (by decide) ?_
  refine lv_istore (lv' := [(4, .int (0 : Int32)), (3, .int (1 : Int32)), (0, .ref (q 46)), (1, .int x1), (2, .int x2)]) C.1 C.2.1 dX8_wordOf_3 hl (by decide) rfl (fun ls hl => ?_)
  have KL_5 : ∀ (n : Nat) (x1 : Int32) (x2 : Int32) (x3 : Int32) (x4 : Int32) (I : Nat → Int32) (J : Nat → Int64) (A : Nat → Nat → Int32) (B : Nat → Nat → Int64) (o : (Int32) ⊕ (Unit)) (Q : State → Prop) (H : Heap) (locs : List Loc) (ls : Array Slot), lX8_wordOf_5 n x1 x2 x3 x4 I J A B = some o → MI D cy s s.heap H locs q I J A B → lv_has ls 8 [(0, .ref (q 46)), (1, .int x1), (2, .int x2), (3, .int x3), (4, .int x4)] → (∀ (o3_0 : Int32) (H : Heap) (locs : List Loc) (ls : Array Slot), o = (.inl o3_0) → MI D cy s s.heap H locs q I J A B → lv_has ls 8 [(3, .int o3_0)] → W p l e (rmL 0) s m args below meth c H locs 0 0 Q (F0 m 109 ls [])) → (∀ (H : Heap) (locs : List Loc) (ls : Array Slot), o = (.inr ()) → MI D cy s s.heap H locs q I J A B → lv_has ls 8 [] → W p l e (rmL 0) s m args below meth c H locs 0 0 Q (F0 m 126 ls [])) → W p l e (rmL 0) s m args below meth c H locs 0 0 Q (F0 m 5 ls []) := by
    intro n; induction n with
    | zero => intro x1 x2 x3 x4 I J A B o Q H locs ls hs; rw [lX8_wordOf_5] at hs; cases hs
    | succ n ih =>
      intro x1 x2 x3 x4 I J A B o Q H locs ls hs hI hl kk0 kk1
      rw [lX8_wordOf_5] at hs
      refine lv_iload C.1 C.2.1 dX8_wordOf_5 (lv_at hl 4 rfl) ?_
      refine lv_aload_n C.1 C.2.1 dX8_wordOf_7 rfl (lv_at hl 0 rfl) ?_
      refine mg_17 C hI dX8_wordOf_8 ?_
      refine ml_17 C hI dX8_wordOf_11 ?_
      refine lv_icmp_ge (tgt := 126) C.1 C.2.1 dX8_wordOf_12 (by decide) (fun cn => ?_) (fun cn => ?_)
      · have hs := if_t cn hs
        have eo := (Option.some.inj hs).symm
        exact kk1  _ _ _ eo hI (lv_sub hl [] rfl)
      · have hs := if_f cn hs
        refine lv_iconst (v := 0) C.1 C.2.1 dX8_wordOf_15 (by decide) ?_
        refine lv_istore (lv' := [(5, .int (0 : Int32)), (0, .ref (q 46)), (1, .int x1), (2, .int x2), (3, .int x3), (4, .int x4)]) C.1 C.2.1 dX8_wordOf_16 hl (by decide) rfl (fun ls hl => ?_)
        have KL_18 : ∀ (n : Nat) (x1 : Int32) (x2 : Int32) (x3 : Int32) (x4 : Int32) (x5 : Int32) (I : Nat → Int32) (J : Nat → Int64) (A : Nat → Nat → Int32) (B : Nat → Nat → Int64) (o : Int32) (Q : State → Prop) (H : Heap) (locs : List Loc) (ls : Array Slot), lX8_wordOf_18 n x1 x2 x3 x4 x5 I J A B = some o → MI D cy s s.heap H locs q I J A B → lv_has ls 8 [(0, .ref (q 46)), (1, .int x1), (2, .int x2), (3, .int x3), (4, .int x4), (5, .int x5)] → (∀ (o5_0 : Int32) (H : Heap) (locs : List Loc) (ls : Array Slot), o = o5_0 → MI D cy s s.heap H locs q I J A B → lv_has ls 8 [(0, .ref (q 46)), (1, .int x1), (2, .int x2), (3, .int x3), (4, .int x4), (5, .int o5_0)] → W p l e (rmL 0) s m args below meth c H locs 0 0 Q (F0 m 39 ls [])) → W p l e (rmL 0) s m args below meth c H locs 0 0 Q (F0 m 18 ls []) := by
          intro n; induction n with
          | zero => intro x1 x2 x3 x4 x5 I J A B o Q H locs ls hs; rw [lX8_wordOf_18] at hs; cases hs
          | succ n ih =>
            intro x1 x2 x3 x4 x5 I J A B o Q H locs ls hs hI hl kk0
            rw [lX8_wordOf_18] at hs
            refine lv_aload_n C.1 C.2.1 dX8_wordOf_18 rfl (lv_at hl 0 rfl) ?_
            refine mg_17 C hI dX8_wordOf_19 ?_
            refine lv_iload C.1 C.2.1 dX8_wordOf_22 (lv_at hl 4 rfl) ?_
            refine lv_iload C.1 C.2.1 dX8_wordOf_24 (lv_at hl 5 rfl) ?_
            refine lv_iadd C.1 C.2.1 dX8_wordOf_26 ?_
            obtain ⟨hk, hs⟩ := ck_e hs
            refine ma_17 C hI hk dX8_wordOf_27 ?_
            refine lv_bipush (v := 32) C.1 C.2.1 dX8_wordOf_28 (by decide) ?_
            refine lv_icmp_eq (tgt := 39) C.1 C.2.1 dX8_wordOf_30 (by decide) (fun cn => ?_) (fun cn => ?_)
            · have hs := if_t cn hs
              have eo := (Option.some.inj hs).symm
              exact kk0 _ _ _ _ eo hI (lv_sub hl [0, 1, 2, 3, 4, 5] rfl)
            · have hs := if_f cn hs
              obtain ⟨x5_33, ex5_33⟩ : ∃ y : Int32, y = (x5 + 1) := ⟨_, rfl⟩
              have hs := gv_at ex5_33 hs
              refine lv_iinc (v := x5_33) (lv' := [(5, .int x5_33), (0, .ref (q 46)), (1, .int x1), (2, .int x2), (3, .int x3), (4, .int x4)]) C.1 C.2.1 dX8_wordOf_33 hl (k := 5) rfl (by rw [ex5_33]; rfl) (by decide) rfl (fun ls hl => ?_)
              refine lv_goto (tgt := 18) C.1 C.2.1 dX8_wordOf_36 (by decide) ?_
              exact ih _ _ _ _ _ _ _ _ _ _ _ _ _ _ hs hI (lv_sub hl [1, 2, 3, 4, 5, 0] rfl) kk0
        obtain ⟨x5_18, hL, hs⟩ := bd_e hs
        refine KL_18 FU _ _ _ _ _ _ _ _ _ _ _ _ _ _ hL hI (lv_sub hl [1, 2, 3, 4, 5, 0] rfl) (fun z0 H locs ls eo hI hl => ?_)
        subst eo
        refine lv_iload C.1 C.2.1 dX8_wordOf_39 (lv_at hl 5 rfl) ?_
        refine lv_iload_n C.1 C.2.1 dX8_wordOf_41 rfl (lv_at hl 2 rfl) ?_
        refine lv_iload_n C.1 C.2.1 dX8_wordOf_42 rfl (lv_at hl 1 rfl) ?_
        refine lv_isub C.1 C.2.1 dX8_wordOf_43 ?_
        obtain ⟨v_52, ev_52, hs⟩ := gv_ex hs
        have KP_52 : W p l e (rmL 0) s m args below meth c H locs 0 0 Q (F0 m 52 ls [.int v_52]) := by
          refine lv_istore (lv' := [(6, .int v_52), (0, .ref (q 46)), (1, .int x1), (2, .int x2), (3, .int x3), (4, .int x4), (5, .int x5_18)]) C.1 C.2.1 dX8_wordOf_52 hl (by decide) rfl (fun ls hl => ?_)
          refine lv_iconst (v := 0) C.1 C.2.1 dX8_wordOf_54 (by decide) ?_
          refine lv_istore (lv' := [(7, .int (0 : Int32)), (6, .int v_52), (0, .ref (q 46)), (1, .int x1), (2, .int x2), (3, .int x3), (4, .int x4), (5, .int x5_18)]) C.1 C.2.1 dX8_wordOf_55 hl (by decide) rfl (fun ls hl => ?_)
          have KL_57 : ∀ (n : Nat) (x1 : Int32) (x2 : Int32) (x3 : Int32) (x4 : Int32) (x5 : Int32) (x6 : Int32) (x7 : Int32) (I : Nat → Int32) (J : Nat → Int64) (A : Nat → Nat → Int32) (B : Nat → Nat → Int64) (o : Int32) (Q : State → Prop) (H : Heap) (locs : List Loc) (ls : Array Slot), lX8_wordOf_57 n x1 x2 x3 x4 x5 x6 x7 I J A B = some o → MI D cy s s.heap H locs q I J A B → lv_has ls 8 [(0, .ref (q 46)), (1, .int x1), (2, .int x2), (3, .int x3), (4, .int x4), (5, .int x5), (6, .int x6), (7, .int x7)] → (∀ (o6_0 : Int32) (H : Heap) (locs : List Loc) (ls : Array Slot), o = o6_0 → MI D cy s s.heap H locs q I J A B → lv_has ls 8 [(0, .ref (q 46)), (1, .int x1), (2, .int x2), (3, .int x3), (4, .int x4), (5, .int x5), (6, .int o6_0)] → W p l e (rmL 0) s m args below meth c H locs 0 0 Q (F0 m 104 ls [])) → W p l e (rmL 0) s m args below meth c H locs 0 0 Q (F0 m 57 ls []) := by
            intro n; induction n with
            | zero => intro x1 x2 x3 x4 x5 x6 x7 I J A B o Q H locs ls hs; rw [lX8_wordOf_57] at hs; cases hs
            | succ n ih =>
              intro x1 x2 x3 x4 x5 x6 x7 I J A B o Q H locs ls hs hI hl kk0
              rw [lX8_wordOf_57] at hs
              refine lv_iload C.1 C.2.1 dX8_wordOf_57 (lv_at hl 7 rfl) ?_
              refine lv_iload C.1 C.2.1 dX8_wordOf_59 (lv_at hl 5 rfl) ?_
              refine lv_icmp_ge (tgt := 104) C.1 C.2.1 dX8_wordOf_61 (by decide) (fun cn => ?_) (fun cn => ?_)
              · have hs := if_t cn hs
                have eo := (Option.some.inj hs).symm
                exact kk0 _ _ _ _ eo hI (lv_sub hl [0, 1, 2, 3, 4, 5, 6] rfl)
              · have hs := if_f cn hs
                refine lv_iload C.1 C.2.1 dX8_wordOf_64 (lv_at hl 6 rfl) ?_
                refine lv_if_eq (tgt := 104) C.1 C.2.1 dX8_wordOf_66 (by decide) (fun cn => ?_) (fun cn => ?_)
                · have hs := if_t cn hs
                  have eo := (Option.some.inj hs).symm
                  exact kk0 _ _ _ _ eo hI (lv_sub hl [0, 1, 2, 3, 4, 5, 6] rfl)
                · have hs := if_f cn hs
                  refine lv_aload_n C.1 C.2.1 dX8_wordOf_69 rfl (lv_at hl 0 rfl) ?_
                  refine mg_17 C hI dX8_wordOf_70 ?_
                  refine lv_iload C.1 C.2.1 dX8_wordOf_73 (lv_at hl 4 rfl) ?_
                  refine lv_iload C.1 C.2.1 dX8_wordOf_75 (lv_at hl 7 rfl) ?_
                  refine lv_iadd C.1 C.2.1 dX8_wordOf_77 ?_
                  obtain ⟨hk, hs⟩ := ck_e hs
                  refine ma_17 C hI hk dX8_wordOf_78 ?_
                  refine lv_aload_n C.1 C.2.1 dX8_wordOf_79 rfl (lv_at hl 0 rfl) ?_
                  refine mg_18 C hI dX8_wordOf_80 ?_
                  refine lv_iload_n C.1 C.2.1 dX8_wordOf_83 rfl (lv_at hl 1 rfl) ?_
                  refine lv_iload C.1 C.2.1 dX8_wordOf_84 (lv_at hl 7 rfl) ?_
                  refine lv_iadd C.1 C.2.1 dX8_wordOf_86 ?_
                  obtain ⟨hk, hs⟩ := ck_e hs
                  refine ma_18 C hI hk dX8_wordOf_87 ?_
                  obtain ⟨v_96, ev_96, hs⟩ := gv_ex hs
                  have KP_96 : W p l e (rmL 0) s m args below meth c H locs 0 0 Q (F0 m 96 ls [.int v_96]) := by
                    refine lv_istore (lv' := [(6, .int v_96), (0, .ref (q 46)), (1, .int x1), (2, .int x2), (3, .int x3), (4, .int x4), (5, .int x5), (7, .int x7)]) C.1 C.2.1 dX8_wordOf_96 hl (by decide) rfl (fun ls hl => ?_)
                    obtain ⟨x7_98, ex7_98⟩ : ∃ y : Int32, y = (x7 + 1) := ⟨_, rfl⟩
                    have hs := gv_at ex7_98 hs
                    refine lv_iinc (v := x7_98) (lv' := [(7, .int x7_98), (6, .int v_96), (0, .ref (q 46)), (1, .int x1), (2, .int x2), (3, .int x3), (4, .int x4), (5, .int x5)]) C.1 C.2.1 dX8_wordOf_98 hl (k := 7) rfl (by rw [ex7_98]; rfl) (by decide) rfl (fun ls hl => ?_)
                    refine lv_goto (tgt := 57) C.1 C.2.1 dX8_wordOf_101 (by decide) ?_
                    exact ih _ _ _ _ _ _ _ _ _ _ _ _ _ _ _ _ hs hI (lv_sub hl [2, 3, 4, 5, 6, 7, 1, 0] rfl) kk0
                  refine lv_icmp_ne (tgt := 95) C.1 C.2.1 dX8_wordOf_88 (by decide) (fun cn => ?_) (fun cn => ?_)
                  · have ev_96 := if_f' cn ev_96
                    refine lv_iconst (v := 0) C.1 C.2.1 dX8_wordOf_95 (by decide) ?_
                    subst ev_96
                    exact KP_96
                  · have ev_96 := if_t' cn ev_96
                    refine lv_iconst (v := 1) C.1 C.2.1 dX8_wordOf_91 (by decide) ?_
                    refine lv_goto (tgt := 96) C.1 C.2.1 dX8_wordOf_92 (by decide) ?_
                    subst ev_96
                    exact KP_96
          obtain ⟨x6_57, hL, hs⟩ := bd_e hs
          refine KL_57 FU _ _ _ _ _ _ _ _ _ _ _ _ _ _ _ _ hL hI (lv_sub hl [2, 3, 4, 5, 6, 7, 1, 0] rfl) (fun z0 H locs ls eo hI hl => ?_)
          subst eo
          refine lv_iload C.1 C.2.1 dX8_wordOf_104 (lv_at hl 6 rfl) ?_
          refine lv_if_eq (tgt := 111) C.1 C.2.1 dX8_wordOf_106 (by decide) (fun cn => ?_) (fun cn => ?_)
          · have hs := if_t cn hs
            refine lv_iload C.1 C.2.1 dX8_wordOf_111 (lv_at hl 4 rfl) ?_
            refine lv_iload C.1 C.2.1 dX8_wordOf_113 (lv_at hl 5 rfl) ?_
            refine lv_iconst (v := 1) C.1 C.2.1 dX8_wordOf_115 (by decide) ?_
            refine lv_iadd C.1 C.2.1 dX8_wordOf_116 ?_
            refine lv_iadd C.1 C.2.1 dX8_wordOf_117 ?_
            refine lv_topi (fun x4_118 ex4_118 => ?_)
            have hs := gv_at ex4_118 hs
            refine lv_istore (lv' := [(4, .int x4_118), (0, .ref (q 46)), (1, .int x1), (2, .int x2), (3, .int x3), (5, .int x5_18), (6, .int x6_57)]) C.1 C.2.1 dX8_wordOf_118 hl (by decide) rfl (fun ls hl => ?_)
            obtain ⟨x3_120, ex3_120⟩ : ∃ y : Int32, y = (x3 + 1) := ⟨_, rfl⟩
            have hs := gv_at ex3_120 hs
            refine lv_iinc (v := x3_120) (lv' := [(3, .int x3_120), (4, .int x4_118), (0, .ref (q 46)), (1, .int x1), (2, .int x2), (5, .int x5_18), (6, .int x6_57)]) C.1 C.2.1 dX8_wordOf_120 hl (k := 4) rfl (by rw [ex3_120]; rfl) (by decide) rfl (fun ls hl => ?_)
            refine lv_goto (tgt := 5) C.1 C.2.1 dX8_wordOf_123 (by decide) ?_
            exact ih _ _ _ _ _ _ _ _ _ _ _ _ _ hs hI (lv_sub hl [2, 3, 4, 0, 1] rfl) kk0 kk1
          · have hs := if_f cn hs
            have eo := (Option.some.inj hs).symm
            exact kk0 _ _ _ _ eo hI (lv_sub hl [3] rfl)
        refine lv_icmp_ne (tgt := 51) C.1 C.2.1 dX8_wordOf_44 (by decide) (fun cn => ?_) (fun cn => ?_)
        · have ev_52 := if_f' cn ev_52
          refine lv_iconst (v := 0) C.1 C.2.1 dX8_wordOf_51 (by decide) ?_
          subst ev_52
          exact KP_52
        · have ev_52 := if_t' cn ev_52
          refine lv_iconst (v := 1) C.1 C.2.1 dX8_wordOf_47 (by decide) ?_
          refine lv_goto (tgt := 52) C.1 C.2.1 dX8_wordOf_48 (by decide) ?_
          subst ev_52
          exact KP_52
  obtain ⟨o_5, hL, hs⟩ := bd_e hs
  refine KL_5 FU _ _ _ _ _ _ _ _ _ _ _ _ _ hL hI (lv_sub hl [2, 3, 4, 1, 0] rfl) (fun x3_5 H locs ls eo hI hl => ?_) (fun H locs ls eo hI hl => ?_)
  · rw [eo] at hs
    refine lv_iload_n C.1 C.2.1 dX8_wordOf_109 rfl (lv_at hl 0 rfl) ?_
    obtain rfl := Option.some.inj hs
    exact M_iret C hI dX8_wordOf_110
  · rw [eo] at hs
    refine lv_iconst (v := 0) C.1 C.2.1 dX8_wordOf_126 (by decide) ?_
    obtain rfl := Option.some.inj hs
    exact M_iret C hI dX8_wordOf_127

def sX8_fine (I : Nat → Int32) (J : Nat → Int64) (A : Nat → Nat → Int32) (B : Nat → Nat → Int64) : Option ((Int32)) :=
gv (if (I 28) = (-1 : Int32) then (1 : Int32) else (0 : Int32)) fun v_13 =>
some v_13
set_option maxRecDepth 100000 in
set_option maxHeartbeats 8000000 in
theorem kX8_fine (l : Launch) (D : va_G) (cy : Nat → ClassId) (q : Nat → Nat) (I : Nat → Int32) (J : Nat → Int64) (A : Nat → Nat → Int32) (B : Nat → Nat → Int64) (r : Int32) (hs : sX8_fine I J A B = some r) : McI l yX8_fine cX8_fine 1 (some .boolean) 0 [.ref (q 46)] D cy q I J A B (some (.int r)) I J A B := by
  refine M_start rfl rfl (Nat.le_of_ble_eq_true rfl) ?_
  intro p e s m args below meth c H locs C hI ls hl
  have hl : lv_has ls 1 [(0, .ref (q 46))] := hl
  rw [sX8_fine] at hs
  refine lv_aload_n C.1 C.2.1 dX8_fine_0 rfl (lv_at hl 0 rfl) ?_
  refine mg_28 C hI dX8_fine_1 ?_
  refine lv_iconst (v := -1) C.1 C.2.1 dX8_fine_4 (by decide) ?_
  obtain ⟨v_13, ev_13, hs⟩ := gv_ex hs
  have KP_13 : W p l e (rmL 0) s m args below meth c H locs 0 0 (MQ below (mQ D cy q (some (.int r)) I J A B) args s 0 0 (MA q)) (F0 m 13 ls [.int v_13]) := by
    obtain rfl := Option.some.inj hs
    exact M_zret C hI (isB_ev ev_13 (by (repeat' split) <;> decide)) dX8_fine_13
  refine lv_icmp_ne (tgt := 12) C.1 C.2.1 dX8_fine_5 (by decide) (fun cn => ?_) (fun cn => ?_)
  · have ev_13 := if_f' cn ev_13
    refine lv_iconst (v := 0) C.1 C.2.1 dX8_fine_12 (by decide) ?_
    subst ev_13
    exact KP_13
  · have ev_13 := if_t' cn ev_13
    refine lv_iconst (v := 1) C.1 C.2.1 dX8_fine_8 (by decide) ?_
    refine lv_goto (tgt := 13) C.1 C.2.1 dX8_fine_9 (by decide) ?_
    subst ev_13
    exact KP_13

def sX8_sign (x0 : Int32) : Option ((Int32)) :=
some ((100 : Int32) + x0)
set_option maxRecDepth 100000 in
set_option maxHeartbeats 8000000 in
theorem kX8_sign (l : Launch) (x0 : Int32) (r : Int32) (hs : sX8_sign x0 = some r) : McS l yX8_sign cX8_sign 1 (some .int) 0 [.int x0] (some (.int r)) := by
  refine S_start rfl (Nat.le_of_ble_eq_true rfl) ?_
  intro p e s m args below meth c H locs C hI ls hl
  have hl : lv_has ls 1 [(0, .int x0)] := hl
  rw [sX8_sign] at hs
  refine lv_bipush (v := 100) C.1 C.2.1 dX8_sign_0 (by decide) ?_
  refine lv_iload_n C.1 C.2.1 dX8_sign_2 rfl (lv_at hl 0 rfl) ?_
  refine lv_iadd C.1 C.2.1 dX8_sign_3 ?_
  obtain rfl := Option.some.inj hs
  exact S_iret C hI dX8_sign_4

def sX8_fault (I : Nat → Int32) (J : Nat → Int64) (A : Nat → Nat → Int32) (B : Nat → Nat → Int64) : Option ((Int32)) :=
some (I 21)
set_option maxRecDepth 100000 in
set_option maxHeartbeats 8000000 in
theorem kX8_fault (l : Launch) (D : va_G) (cy : Nat → ClassId) (q : Nat → Nat) (I : Nat → Int32) (J : Nat → Int64) (A : Nat → Nat → Int32) (B : Nat → Nat → Int64) (r : Int32) (hs : sX8_fault I J A B = some r) : McI l yX8_fault cX8_fault 1 (some .int) 0 [.ref (q 46)] D cy q I J A B (some (.int r)) I J A B := by
  refine M_start rfl rfl (Nat.le_of_ble_eq_true rfl) ?_
  intro p e s m args below meth c H locs C hI ls hl
  have hl : lv_has ls 1 [(0, .ref (q 46))] := hl
  rw [sX8_fault] at hs
  refine lv_aload_n C.1 C.2.1 dX8_fault_0 rfl (lv_at hl 0 rfl) ?_
  refine mg_21 C hI dX8_fault_1 ?_
  obtain rfl := Option.some.inj hs
  exact M_iret C hI dX8_fault_4

def sX8_codeAt (x1 : Int32) (I : Nat → Int32) (J : Nat → Int64) (A : Nat → Nat → Int32) (B : Nat → Nat → Int64) : Option ((Int32)) :=
if (I 30) ≤ x1 then
(some (0 : Int32))
else
ck (inB ((1647 : Int32) + x1) 8047) <|
some (A 1 (ix ((1647 : Int32) + x1)))
set_option maxRecDepth 100000 in
set_option maxHeartbeats 8000000 in
theorem kX8_codeAt (l : Launch) (D : va_G) (cy : Nat → ClassId) (q : Nat → Nat) (x1 : Int32) (I : Nat → Int32) (J : Nat → Int64) (A : Nat → Nat → Int32) (B : Nat → Nat → Int64) (r : Int32) (hs : sX8_codeAt x1 I J A B = some r) : McI l yX8_codeAt cX8_codeAt 2 (some .int) 0 [.ref (q 46), .int x1] D cy q I J A B (some (.int r)) I J A B := by
  refine M_start rfl rfl (Nat.le_of_ble_eq_true rfl) ?_
  intro p e s m args below meth c H locs C hI ls hl
  have hl : lv_has ls 2 [(0, .ref (q 46)), (1, .int x1)] := hl
  rw [sX8_codeAt] at hs
  refine lv_iload_n C.1 C.2.1 dX8_codeAt_0 rfl (lv_at hl 1 rfl) ?_
  refine lv_aload_n C.1 C.2.1 dX8_codeAt_1 rfl (lv_at hl 0 rfl) ?_
  refine mg_30 C hI dX8_codeAt_2 ?_
  refine lv_icmp_ge (tgt := 21) C.1 C.2.1 dX8_codeAt_5 (by decide) (fun cn => ?_) (fun cn => ?_)
  · have hs := if_t cn hs
    refine lv_iconst (v := 0) C.1 C.2.1 dX8_codeAt_21 (by decide) ?_
    obtain rfl := Option.some.inj hs
    exact M_iret C hI dX8_codeAt_22
  · have hs := if_f cn hs
    refine lv_aload_n C.1 C.2.1 dX8_codeAt_8 rfl (lv_at hl 0 rfl) ?_
    refine mg_1 C hI dX8_codeAt_9 ?_
    refine lv_sipush (v := 1647) C.1 C.2.1 dX8_codeAt_12 (by decide) ?_
    refine lv_iload_n C.1 C.2.1 dX8_codeAt_15 rfl (lv_at hl 1 rfl) ?_
    refine lv_iadd C.1 C.2.1 dX8_codeAt_16 ?_
    obtain ⟨hk, hs⟩ := ck_e hs
    refine ma_1 C hI hk dX8_codeAt_17 ?_
    refine lv_goto (tgt := 22) C.1 C.2.1 dX8_codeAt_18 (by decide) ?_
    obtain rfl := Option.some.inj hs
    exact M_iret C hI dX8_codeAt_22

def sX8_bounded (x1 : Int64) (x3 : Int32) (I : Nat → Int32) (J : Nat → Int64) (A : Nat → Nat → Int32) (B : Nat → Nat → Int64) : Option ((Int64) × (Nat → Int32)) :=
gv (fun (I : Nat → Int32) =>
gv (if (I 31) = 0 then x1 else (0 : Int64)) fun v_37 =>
some (v_37, I)) fun k_25 =>
if x3 = 0 then
(k_25 I)
else
gv (fun (I : Nat → Int32) =>
gv (upd I 31 (1 : Int32)) fun I =>
k_25 I) fun k_20 =>
if 0 < (lg_cmp x1 (1000000000 : Int64)) then
(k_20 I)
else
if 0 ≤ (lg_cmp x1 (-1000000000 : Int64)) then
(k_25 I)
else
k_20 I
set_option maxRecDepth 100000 in
set_option maxHeartbeats 8000000 in
theorem kX8_bounded (l : Launch) (D : va_G) (cy : Nat → ClassId) (q : Nat → Nat) (x1 : Int64) (x3 : Int32) (I : Nat → Int32) (J : Nat → Int64) (A : Nat → Nat → Int32) (B : Nat → Nat → Int64) (r : Int64) (I2 : Nat → Int32) (hs : sX8_bounded x1 x3 I J A B = some (r, I2)) : McI l yX8_bounded cX8_bounded 4 (some .long) 0 [.ref (q 46), .long x1, .int x3] D cy q I J A B (some (.long r)) I2 J A B := by
  refine M_start rfl rfl (Nat.le_of_ble_eq_true rfl) ?_
  intro p e s m args below meth c H locs C hI ls hl
  have hl : lv_has ls 4 [(0, .ref (q 46)), (1, .long x1), (3, .int x3)] := hl
  rw [sX8_bounded] at hs
  refine lv_iload_n C.1 C.2.1 dX8_bounded_0 rfl (lv_at hl 2 rfl) ?_
  obtain ⟨k_25, ek_25, hs⟩ := gv_ex hs
  have KJ_25 : ∀ (I : Nat → Int32) (H : Heap) (locs : List Loc) (ls : Array Slot), k_25 I = some (r, I2) → MI D cy s s.heap H locs q I J A B → lv_has ls 4 [(0, .ref (q 46)), (1, .long x1)] → W p l e (rmL 0) s m args below meth c H locs 0 0 (MQ below (mQ D cy q (some (.long r)) I2 J A B) args s 0 0 (MA q)) (F0 m 25 ls []) := by
    intro I H locs ls hs hI hl
    rw [ek_25] at hs
    refine lv_aload_n C.1 C.2.1 dX8_bounded_25 rfl (lv_at hl 0 rfl) ?_
    refine mg_31 C hI dX8_bounded_26 ?_
    obtain ⟨v_37, ev_37, hs⟩ := gv_ex hs
    have KP_37 : W p l e (rmL 0) s m args below meth c H locs 0 0 (MQ below (mQ D cy q (some (.long r)) I2 J A B) args s 0 0 (MA q)) (F0 m 37 ls [.long v_37]) := by
      obtain ⟨rfl, rfl⟩ := so2 hs
      exact M_lret C hI dX8_bounded_37
    refine lv_if_eq (tgt := 36) C.1 C.2.1 dX8_bounded_29 (by decide) (fun cn => ?_) (fun cn => ?_)
    · have ev_37 := if_t' cn ev_37
      refine lv_lload_n C.1 C.2.1 dX8_bounded_36 rfl (lv_at hl 1 rfl) ?_
      subst ev_37
      exact KP_37
    · have ev_37 := if_f' cn ev_37
      refine lv_lconst (v := 0) C.1 C.2.1 dX8_bounded_32 (by decide) ?_
      refine lv_goto (tgt := 37) C.1 C.2.1 dX8_bounded_33 (by decide) ?_
      subst ev_37
      exact KP_37
  refine lv_if_eq (tgt := 25) C.1 C.2.1 dX8_bounded_1 (by decide) (fun cn => ?_) (fun cn => ?_)
  · have hs := if_t cn hs
    exact KJ_25 _ _ _ _ hs hI (lv_sub hl [0, 1] rfl)
  · have hs := if_f cn hs
    refine lv_lload_n C.1 C.2.1 dX8_bounded_4 rfl (lv_at hl 1 rfl) ?_
    refine lv_ldc2 C.1 C.2.1 C.2.2.2.1 (C.2.2.2.2.1 _ kl_X8_246) dX8_bounded_5 ?_
    refine W.lcmp C.1 C.2.1 dX8_bounded_8 ?_
    obtain ⟨k_20, ek_20, hs⟩ := gv_ex hs
    have KJ_20 : ∀ (I : Nat → Int32) (H : Heap) (locs : List Loc) (ls : Array Slot), k_20 I = some (r, I2) → MI D cy s s.heap H locs q I J A B → lv_has ls 4 [(0, .ref (q 46)), (1, .long x1)] → W p l e (rmL 0) s m args below meth c H locs 0 0 (MQ below (mQ D cy q (some (.long r)) I2 J A B) args s 0 0 (MA q)) (F0 m 20 ls []) := by
      intro I H locs ls hs hI hl
      rw [ek_20] at hs
      refine lv_aload_n C.1 C.2.1 dX8_bounded_20 rfl (lv_at hl 0 rfl) ?_
      refine lv_iconst (v := 1) C.1 C.2.1 dX8_bounded_21 (by decide) ?_
      refine mp_31 C hI (by decide) dX8_bounded_22 (fun H locs hI => ?_)
      have hs := gv_be hs
      exact KJ_25 _ _ _ _ hs hI (lv_sub hl [0, 1] rfl)
    refine lv_if_gt (tgt := 20) C.1 C.2.1 dX8_bounded_9 (by decide) (fun cn => ?_) (fun cn => ?_)
    · have hs := if_t cn hs
      exact KJ_20 _ _ _ _ hs hI (lv_sub hl [0, 1] rfl)
    · have hs := if_f cn hs
      refine lv_lload_n C.1 C.2.1 dX8_bounded_12 rfl (lv_at hl 1 rfl) ?_
      refine lv_ldc2 C.1 C.2.1 C.2.2.2.1 (C.2.2.2.2.1 _ kl_X8_248) dX8_bounded_13 ?_
      refine W.lcmp C.1 C.2.1 dX8_bounded_16 ?_
      refine lv_if_ge (tgt := 25) C.1 C.2.1 dX8_bounded_17 (by decide) (fun cn => ?_) (fun cn => ?_)
      · have hs := if_t cn hs
        exact KJ_25 _ _ _ _ hs hI (lv_sub hl [0, 1] rfl)
      · have hs := if_f cn hs
        exact KJ_20 _ _ _ _ hs hI (lv_sub hl [0, 1] rfl)

def sX8_becomes (x1 : Int32) (x2 : Int32) (I : Nat → Int32) (J : Nat → Int64) (A : Nat → Nat → Int32) (B : Nat → Nat → Int64) : Option ((Nat → Nat → Int32)) :=
ck (inB ((48 : Int32) + x1) 8047) <|
gv (va_up A 1 (upd (A 1) (ix ((48 : Int32) + x1)) x2)) fun A =>
ck (inB ((96 : Int32) + x1) 8047) <|
gv (va_up A 1 (upd (A 1) (ix ((96 : Int32) + x1)) (0 : Int32))) fun A =>
some A
set_option maxRecDepth 100000 in
set_option maxHeartbeats 8000000 in
theorem kX8_becomes (l : Launch) (D : va_G) (cy : Nat → ClassId) (q : Nat → Nat) (x1 : Int32) (x2 : Int32) (I : Nat → Int32) (J : Nat → Int64) (A : Nat → Nat → Int32) (B : Nat → Nat → Int64) (A2 : Nat → Nat → Int32) (hs : sX8_becomes x1 x2 I J A B = some A2) : McI l yX8_becomes cX8_becomes 3 none 0 [.ref (q 46), .int x1, .int x2] D cy q I J A B none I J A2 B := by
  refine M_start rfl rfl (Nat.le_of_ble_eq_true rfl) ?_
  intro p e s m args below meth c H locs C hI ls hl
  have hl : lv_has ls 3 [(0, .ref (q 46)), (1, .int x1), (2, .int x2)] := hl
  rw [sX8_becomes] at hs
  refine lv_aload_n C.1 C.2.1 dX8_becomes_0 rfl (lv_at hl 0 rfl) ?_
  refine mg_1 C hI dX8_becomes_1 ?_
  refine lv_bipush (v := 48) C.1 C.2.1 dX8_becomes_4 (by decide) ?_
  refine lv_iload_n C.1 C.2.1 dX8_becomes_6 rfl (lv_at hl 1 rfl) ?_
  refine lv_iadd C.1 C.2.1 dX8_becomes_7 ?_
  refine lv_iload_n C.1 C.2.1 dX8_becomes_8 rfl (lv_at hl 2 rfl) ?_
  obtain ⟨hk, hs⟩ := ck_e hs
  refine ms_1 C hI hk dX8_becomes_9 (fun H locs hI => ?_)
  have hs := gv_be hs
  refine lv_aload_n C.1 C.2.1 dX8_becomes_10 rfl (lv_at hl 0 rfl) ?_
  refine mg_1 C hI dX8_becomes_11 ?_
  refine lv_bipush (v := 96) C.1 C.2.1 dX8_becomes_14 (by decide) ?_
  refine lv_iload_n C.1 C.2.1 dX8_becomes_16 rfl (lv_at hl 1 rfl) ?_
  refine lv_iadd C.1 C.2.1 dX8_becomes_17 ?_
  refine lv_iconst (v := 0) C.1 C.2.1 dX8_becomes_18 (by decide) ?_
  obtain ⟨hk, hs⟩ := ck_e hs
  refine ms_1 C hI hk dX8_becomes_19 (fun H locs hI => ?_)
  have hs := gv_be hs
  obtain rfl := Option.some.inj hs
  exact M_vret C hI dX8_becomes_20

def sX8_stepOf (x1 : Int32) (x2 : Int32) (I : Nat → Int32) (J : Nat → Int64) (A : Nat → Nat → Int32) (B : Nat → Nat → Int64) : Option ((Int32)) :=
ck (inB (((213 : Int32) + ((6 : Int32) * x1)) + x2) 8047) <|
some (A 1 (ix (((213 : Int32) + ((6 : Int32) * x1)) + x2)))
set_option maxRecDepth 100000 in
set_option maxHeartbeats 8000000 in
theorem kX8_stepOf (l : Launch) (D : va_G) (cy : Nat → ClassId) (q : Nat → Nat) (x1 : Int32) (x2 : Int32) (I : Nat → Int32) (J : Nat → Int64) (A : Nat → Nat → Int32) (B : Nat → Nat → Int64) (r : Int32) (hs : sX8_stepOf x1 x2 I J A B = some r) : McI l yX8_stepOf cX8_stepOf 3 (some .int) 0 [.ref (q 46), .int x1, .int x2] D cy q I J A B (some (.int r)) I J A B := by
  refine M_start rfl rfl (Nat.le_of_ble_eq_true rfl) ?_
  intro p e s m args below meth c H locs C hI ls hl
  have hl : lv_has ls 3 [(0, .ref (q 46)), (1, .int x1), (2, .int x2)] := hl
  rw [sX8_stepOf] at hs
  refine lv_aload_n C.1 C.2.1 dX8_stepOf_0 rfl (lv_at hl 0 rfl) ?_
  refine mg_1 C hI dX8_stepOf_1 ?_
  refine lv_sipush (v := 213) C.1 C.2.1 dX8_stepOf_4 (by decide) ?_
  refine lv_bipush (v := 6) C.1 C.2.1 dX8_stepOf_7 (by decide) ?_
  refine lv_iload_n C.1 C.2.1 dX8_stepOf_9 rfl (lv_at hl 1 rfl) ?_
  refine lv_imul C.1 C.2.1 dX8_stepOf_10 ?_
  refine lv_iadd C.1 C.2.1 dX8_stepOf_11 ?_
  refine lv_iload_n C.1 C.2.1 dX8_stepOf_12 rfl (lv_at hl 2 rfl) ?_
  refine lv_iadd C.1 C.2.1 dX8_stepOf_13 ?_
  obtain ⟨hk, hs⟩ := ck_e hs
  refine ma_1 C hI hk dX8_stepOf_14 ?_
  obtain rfl := Option.some.inj hs
  exact M_iret C hI dX8_stepOf_15

def lX8_saves_2 : Nat → Int32 → (Nat → Int32) → (Nat → Int64) → (Nat → Nat → Int32) → (Nat → Nat → Int64) → Option ((Nat → Nat → Int32))
  | 0, _, _, _, _, _ => none
  | n + 1, x1, I, J, A, B =>
    if (96 : Int32) ≤ x1 then
    (some A)
    else
    ck (inB ((48 : Int32) + x1) 8047) <|
    ck (inB x1 96) <|
    gv (va_up A 39 (upd (A 39) (ix x1) (A 1 (ix ((48 : Int32) + x1))))) fun A =>
    gv (x1 + 1) fun x1_23 =>
    lX8_saves_2 n x1_23 I J A B
def sX8_saves (I : Nat → Int32) (J : Nat → Int64) (A : Nat → Nat → Int32) (B : Nat → Nat → Int64) : Option ((Nat → Nat → Int32)) :=
(lX8_saves_2 FU (0 : Int32) I J A B).bind fun A =>
some A
set_option maxRecDepth 100000 in
set_option maxHeartbeats 8000000 in
theorem kX8_saves (l : Launch) (D : va_G) (cy : Nat → ClassId) (q : Nat → Nat) (I : Nat → Int32) (J : Nat → Int64) (A : Nat → Nat → Int32) (B : Nat → Nat → Int64) (A2 : Nat → Nat → Int32) (hs : sX8_saves I J A B = some A2) : McI l yX8_saves cX8_saves 2 none 0 [.ref (q 46)] D cy q I J A B none I J A2 B := by
  refine M_start rfl rfl (Nat.le_of_ble_eq_true rfl) ?_
  intro p e s m args below meth c H locs C hI ls hl
  have hl : lv_has ls 2 [(0, .ref (q 46))] := hl
  rw [sX8_saves] at hs
  refine lv_iconst (v := 0) C.1 C.2.1 dX8_saves_0 (by decide) ?_
  refine lv_istore_n (lv' := [(1, .int (0 : Int32)), (0, .ref (q 46))]) C.1 C.2.1 dX8_saves_1 rfl hl (by decide) rfl (fun ls hl => ?_)
  have KL_2 : ∀ (n : Nat) (x1 : Int32) (I : Nat → Int32) (J : Nat → Int64) (A : Nat → Nat → Int32) (B : Nat → Nat → Int64) (o : (Nat → Nat → Int32)) (Q : State → Prop) (H : Heap) (locs : List Loc) (ls : Array Slot), lX8_saves_2 n x1 I J A B = some o → MI D cy s s.heap H locs q I J A B → lv_has ls 2 [(0, .ref (q 46)), (1, .int x1)] → (∀ (A_0 : Nat → Nat → Int32) (H : Heap) (locs : List Loc) (ls : Array Slot), o = A_0 → MI D cy s s.heap H locs q I J A_0 B → lv_has ls 2 [] → W p l e (rmL 0) s m args below meth c H locs 0 0 Q (F0 m 29 ls [])) → W p l e (rmL 0) s m args below meth c H locs 0 0 Q (F0 m 2 ls []) := by
    intro n; induction n with
    | zero => intro x1 I J A B o Q H locs ls hs; rw [lX8_saves_2] at hs; cases hs
    | succ n ih =>
      intro x1 I J A B o Q H locs ls hs hI hl kk0
      rw [lX8_saves_2] at hs
      refine lv_iload_n C.1 C.2.1 dX8_saves_2 rfl (lv_at hl 1 rfl) ?_
      refine lv_bipush (v := 96) C.1 C.2.1 dX8_saves_3 (by decide) ?_
      refine lv_icmp_ge (tgt := 29) C.1 C.2.1 dX8_saves_5 (by decide) (fun cn => ?_) (fun cn => ?_)
      · have hs := if_t cn hs
        have eo := (Option.some.inj hs).symm
        exact kk0 _ _ _ _ eo hI (lv_sub hl [] rfl)
      · have hs := if_f cn hs
        refine lv_aload_n C.1 C.2.1 dX8_saves_8 rfl (lv_at hl 0 rfl) ?_
        refine mg_39 C hI dX8_saves_9 ?_
        refine lv_iload_n C.1 C.2.1 dX8_saves_12 rfl (lv_at hl 1 rfl) ?_
        refine lv_aload_n C.1 C.2.1 dX8_saves_13 rfl (lv_at hl 0 rfl) ?_
        refine mg_1 C hI dX8_saves_14 ?_
        refine lv_bipush (v := 48) C.1 C.2.1 dX8_saves_17 (by decide) ?_
        refine lv_iload_n C.1 C.2.1 dX8_saves_19 rfl (lv_at hl 1 rfl) ?_
        refine lv_iadd C.1 C.2.1 dX8_saves_20 ?_
        obtain ⟨hk, hs⟩ := ck_e hs
        refine ma_1 C hI hk dX8_saves_21 ?_
        obtain ⟨hk, hs⟩ := ck_e hs
        refine ms_39 C hI hk dX8_saves_22 (fun H locs hI => ?_)
        have hs := gv_be hs
        obtain ⟨x1_23, ex1_23⟩ : ∃ y : Int32, y = (x1 + 1) := ⟨_, rfl⟩
        have hs := gv_at ex1_23 hs
        refine lv_iinc (v := x1_23) (lv' := [(1, .int x1_23), (0, .ref (q 46))]) C.1 C.2.1 dX8_saves_23 hl (k := 1) rfl (by rw [ex1_23]; rfl) (by decide) rfl (fun ls hl => ?_)
        refine lv_goto (tgt := 2) C.1 C.2.1 dX8_saves_26 (by decide) ?_
        exact ih _ _ _ _ _ _ _ _ _ _ hs hI (lv_sub hl [1, 0] rfl) kk0
  obtain ⟨A_L, hL, hs⟩ := bd_e hs
  refine KL_2 FU _ _ _ _ _ _ _ _ _ _ hL hI (lv_sub hl [1, 0] rfl) (fun z0 H locs ls eo hI hl => ?_)
  subst eo
  obtain rfl := Option.some.inj hs
  exact M_vret C hI dX8_saves_29

def lX8_restores_2 : Nat → Int32 → (Nat → Int32) → (Nat → Int64) → (Nat → Nat → Int32) → (Nat → Nat → Int64) → Option ((Nat → Nat → Int32))
  | 0, _, _, _, _, _ => none
  | n + 1, x1, I, J, A, B =>
    if (96 : Int32) ≤ x1 then
    (some A)
    else
    ck (inB x1 96) <|
    ck (inB ((48 : Int32) + x1) 8047) <|
    gv (va_up A 1 (upd (A 1) (ix ((48 : Int32) + x1)) (A 39 (ix x1)))) fun A =>
    gv (x1 + 1) fun x1_23 =>
    lX8_restores_2 n x1_23 I J A B
def sX8_restores (I : Nat → Int32) (J : Nat → Int64) (A : Nat → Nat → Int32) (B : Nat → Nat → Int64) : Option ((Nat → Nat → Int32)) :=
(lX8_restores_2 FU (0 : Int32) I J A B).bind fun A =>
some A
set_option maxRecDepth 100000 in
set_option maxHeartbeats 8000000 in
theorem kX8_restores (l : Launch) (D : va_G) (cy : Nat → ClassId) (q : Nat → Nat) (I : Nat → Int32) (J : Nat → Int64) (A : Nat → Nat → Int32) (B : Nat → Nat → Int64) (A2 : Nat → Nat → Int32) (hs : sX8_restores I J A B = some A2) : McI l yX8_restores cX8_restores 2 none 0 [.ref (q 46)] D cy q I J A B none I J A2 B := by
  refine M_start rfl rfl (Nat.le_of_ble_eq_true rfl) ?_
  intro p e s m args below meth c H locs C hI ls hl
  have hl : lv_has ls 2 [(0, .ref (q 46))] := hl
  rw [sX8_restores] at hs
  refine lv_iconst (v := 0) C.1 C.2.1 dX8_restores_0 (by decide) ?_
  refine lv_istore_n (lv' := [(1, .int (0 : Int32)), (0, .ref (q 46))]) C.1 C.2.1 dX8_restores_1 rfl hl (by decide) rfl (fun ls hl => ?_)
  have KL_2 : ∀ (n : Nat) (x1 : Int32) (I : Nat → Int32) (J : Nat → Int64) (A : Nat → Nat → Int32) (B : Nat → Nat → Int64) (o : (Nat → Nat → Int32)) (Q : State → Prop) (H : Heap) (locs : List Loc) (ls : Array Slot), lX8_restores_2 n x1 I J A B = some o → MI D cy s s.heap H locs q I J A B → lv_has ls 2 [(0, .ref (q 46)), (1, .int x1)] → (∀ (A_0 : Nat → Nat → Int32) (H : Heap) (locs : List Loc) (ls : Array Slot), o = A_0 → MI D cy s s.heap H locs q I J A_0 B → lv_has ls 2 [] → W p l e (rmL 0) s m args below meth c H locs 0 0 Q (F0 m 29 ls [])) → W p l e (rmL 0) s m args below meth c H locs 0 0 Q (F0 m 2 ls []) := by
    intro n; induction n with
    | zero => intro x1 I J A B o Q H locs ls hs; rw [lX8_restores_2] at hs; cases hs
    | succ n ih =>
      intro x1 I J A B o Q H locs ls hs hI hl kk0
      rw [lX8_restores_2] at hs
      refine lv_iload_n C.1 C.2.1 dX8_restores_2 rfl (lv_at hl 1 rfl) ?_
      refine lv_bipush (v := 96) C.1 C.2.1 dX8_restores_3 (by decide) ?_
      refine lv_icmp_ge (tgt := 29) C.1 C.2.1 dX8_restores_5 (by decide) (fun cn => ?_) (fun cn => ?_)
      · have hs := if_t cn hs
        have eo := (Option.some.inj hs).symm
        exact kk0 _ _ _ _ eo hI (lv_sub hl [] rfl)
      · have hs := if_f cn hs
        refine lv_aload_n C.1 C.2.1 dX8_restores_8 rfl (lv_at hl 0 rfl) ?_
        refine mg_1 C hI dX8_restores_9 ?_
        refine lv_bipush (v := 48) C.1 C.2.1 dX8_restores_12 (by decide) ?_
        refine lv_iload_n C.1 C.2.1 dX8_restores_14 rfl (lv_at hl 1 rfl) ?_
        refine lv_iadd C.1 C.2.1 dX8_restores_15 ?_
        refine lv_aload_n C.1 C.2.1 dX8_restores_16 rfl (lv_at hl 0 rfl) ?_
        refine mg_39 C hI dX8_restores_17 ?_
        refine lv_iload_n C.1 C.2.1 dX8_restores_20 rfl (lv_at hl 1 rfl) ?_
        obtain ⟨hk, hs⟩ := ck_e hs
        refine ma_39 C hI hk dX8_restores_21 ?_
        obtain ⟨hk, hs⟩ := ck_e hs
        refine ms_1 C hI hk dX8_restores_22 (fun H locs hI => ?_)
        have hs := gv_be hs
        obtain ⟨x1_23, ex1_23⟩ : ∃ y : Int32, y = (x1 + 1) := ⟨_, rfl⟩
        have hs := gv_at ex1_23 hs
        refine lv_iinc (v := x1_23) (lv' := [(1, .int x1_23), (0, .ref (q 46))]) C.1 C.2.1 dX8_restores_23 hl (k := 1) rfl (by rw [ex1_23]; rfl) (by decide) rfl (fun ls hl => ?_)
        refine lv_goto (tgt := 2) C.1 C.2.1 dX8_restores_26 (by decide) ?_
        exact ih _ _ _ _ _ _ _ _ _ _ hs hI (lv_sub hl [1, 0] rfl) kk0
  obtain ⟨A_L, hL, hs⟩ := bd_e hs
  refine KL_2 FU _ _ _ _ _ _ _ _ _ _ hL hI (lv_sub hl [1, 0] rfl) (fun z0 H locs ls eo hI hl => ?_)
  subst eo
  obtain rfl := Option.some.inj hs
  exact M_vret C hI dX8_restores_29

def sX8_clear (I : Nat → Int32) (J : Nat → Int64) (A : Nat → Nat → Int32) (B : Nat → Nat → Int64) : Option ((Int32) × (Nat → Int32)) :=
gv (I 41) fun x1_4 =>
gv (upd I 41 (0 : Int32)) fun I =>
some (x1_4, I)
set_option maxRecDepth 100000 in
set_option maxHeartbeats 8000000 in
theorem kX8_clear (l : Launch) (D : va_G) (cy : Nat → ClassId) (q : Nat → Nat) (I : Nat → Int32) (J : Nat → Int64) (A : Nat → Nat → Int32) (B : Nat → Nat → Int64) (r : Int32) (I2 : Nat → Int32) (hs : sX8_clear I J A B = some (r, I2)) : McI l yX8_clear cX8_clear 2 (some .int) 0 [.ref (q 46)] D cy q I J A B (some (.int r)) I2 J A B := by
  refine M_start rfl rfl (Nat.le_of_ble_eq_true rfl) ?_
  intro p e s m args below meth c H locs C hI ls hl
  have hl : lv_has ls 2 [(0, .ref (q 46))] := hl
  rw [sX8_clear] at hs
  refine lv_aload_n C.1 C.2.1 dX8_clear_0 rfl (lv_at hl 0 rfl) ?_
  refine mg_41 C hI dX8_clear_1 ?_
  refine lv_topi (fun x1_4 ex1_4 => ?_)
  have hs := gv_at ex1_4 hs
  refine lv_istore_n (lv' := [(1, .int x1_4), (0, .ref (q 46))]) C.1 C.2.1 dX8_clear_4 rfl hl (by decide) rfl (fun ls hl => ?_)
  refine lv_aload_n C.1 C.2.1 dX8_clear_5 rfl (lv_at hl 1 rfl) ?_
  refine lv_iconst (v := 0) C.1 C.2.1 dX8_clear_6 (by decide) ?_
  refine mp_41 C hI dX8_clear_7 (fun H locs hI => ?_)
  have hs := gv_be hs
  refine lv_iload_n C.1 C.2.1 dX8_clear_10 rfl (lv_at hl 0 rfl) ?_
  obtain ⟨rfl, rfl⟩ := so2 hs
  exact M_iret C hI dX8_clear_11

def lX8_canMend_2 : Nat → Int32 → (Nat → Int32) → (Nat → Int64) → (Nat → Nat → Int32) → (Nat → Nat → Int64) → Option ((Unit) ⊕ (Unit))
  | 0, _, _, _, _, _ => none
  | n + 1, x1, I, J, A, B =>
    if (I 41) ≤ x1 then
    (some (.inr ()))
    else
    ck (inB x1 9) <|
    ck (inB ((48 : Int32) + (A 40 (ix x1))) 8047) <|
    if (A 1 (ix ((48 : Int32) + (A 40 (ix x1))))) = 0 then
    (some (.inl ()))
    else
    gv (x1 + 1) fun x1_29 =>
    lX8_canMend_2 n x1_29 I J A B
def sX8_canMend (I : Nat → Int32) (J : Nat → Int64) (A : Nat → Nat → Int32) (B : Nat → Nat → Int64) : Option ((Int32)) :=
(lX8_canMend_2 FU (0 : Int32) I J A B).bind fun o_2 => match o_2 with
| .inl _ =>
some (0 : Int32)
| .inr _ =>
gv (if (I 41) ≤ 0 then (0 : Int32) else (1 : Int32)) fun v_47 =>
some v_47
set_option maxRecDepth 100000 in
set_option maxHeartbeats 8000000 in
theorem kX8_canMend (l : Launch) (D : va_G) (cy : Nat → ClassId) (q : Nat → Nat) (I : Nat → Int32) (J : Nat → Int64) (A : Nat → Nat → Int32) (B : Nat → Nat → Int64) (r : Int32) (hs : sX8_canMend I J A B = some r) : McI l yX8_canMend cX8_canMend 2 (some .boolean) 0 [.ref (q 46)] D cy q I J A B (some (.int r)) I J A B := by
  refine M_start rfl rfl (Nat.le_of_ble_eq_true rfl) ?_
  intro p e s m args below meth c H locs C hI ls hl
  have hl : lv_has ls 2 [(0, .ref (q 46))] := hl
  rw [sX8_canMend] at hs
  refine lv_iconst (v := 0) C.1 C.2.1 dX8_canMend_0 (by decide) ?_
  refine lv_istore_n (lv' := [(1, .int (0 : Int32)), (0, .ref (q 46))]) C.1 C.2.1 dX8_canMend_1 rfl hl (by decide) rfl (fun ls hl => ?_)
  have KL_2 : ∀ (n : Nat) (x1 : Int32) (I : Nat → Int32) (J : Nat → Int64) (A : Nat → Nat → Int32) (B : Nat → Nat → Int64) (o : (Unit) ⊕ (Unit)) (Q : State → Prop) (H : Heap) (locs : List Loc) (ls : Array Slot), lX8_canMend_2 n x1 I J A B = some o → MI D cy s s.heap H locs q I J A B → lv_has ls 2 [(0, .ref (q 46)), (1, .int x1)] → (∀ (H : Heap) (locs : List Loc) (ls : Array Slot), o = (.inl ()) → MI D cy s s.heap H locs q I J A B → lv_has ls 2 [] → W p l e (rmL 0) s m args below meth c H locs 0 0 Q (F0 m 27 ls [])) → (∀ (H : Heap) (locs : List Loc) (ls : Array Slot), o = (.inr ()) → MI D cy s s.heap H locs q I J A B → lv_has ls 2 [(0, .ref (q 46))] → W p l e (rmL 0) s m args below meth c H locs 0 0 Q (F0 m 35 ls [])) → W p l e (rmL 0) s m args below meth c H locs 0 0 Q (F0 m 2 ls []) := by
    intro n; induction n with
    | zero => intro x1 I J A B o Q H locs ls hs; rw [lX8_canMend_2] at hs; cases hs
    | succ n ih =>
      intro x1 I J A B o Q H locs ls hs hI hl kk0 kk1
      rw [lX8_canMend_2] at hs
      refine lv_iload_n C.1 C.2.1 dX8_canMend_2 rfl (lv_at hl 1 rfl) ?_
      refine lv_aload_n C.1 C.2.1 dX8_canMend_3 rfl (lv_at hl 0 rfl) ?_
      refine mg_41 C hI dX8_canMend_4 ?_
      refine lv_icmp_ge (tgt := 35) C.1 C.2.1 dX8_canMend_7 (by decide) (fun cn => ?_) (fun cn => ?_)
      · have hs := if_t cn hs
        have eo := (Option.some.inj hs).symm
        exact kk1  _ _ _ eo hI (lv_sub hl [0] rfl)
      · have hs := if_f cn hs
        refine lv_aload_n C.1 C.2.1 dX8_canMend_10 rfl (lv_at hl 0 rfl) ?_
        refine mg_1 C hI dX8_canMend_11 ?_
        refine lv_bipush (v := 48) C.1 C.2.1 dX8_canMend_14 (by decide) ?_
        refine lv_aload_n C.1 C.2.1 dX8_canMend_16 rfl (lv_at hl 0 rfl) ?_
        refine mg_40 C hI dX8_canMend_17 ?_
        refine lv_iload_n C.1 C.2.1 dX8_canMend_20 rfl (lv_at hl 1 rfl) ?_
        obtain ⟨hk, hs⟩ := ck_e hs
        refine ma_40 C hI hk dX8_canMend_21 ?_
        refine lv_iadd C.1 C.2.1 dX8_canMend_22 ?_
        obtain ⟨hk, hs⟩ := ck_e hs
        refine ma_1 C hI hk dX8_canMend_23 ?_
        refine lv_if_ne (tgt := 29) C.1 C.2.1 dX8_canMend_24 (by decide) (fun cn => ?_) (fun cn => ?_)
        · have hs := if_f cn hs
          obtain ⟨x1_29, ex1_29⟩ : ∃ y : Int32, y = (x1 + 1) := ⟨_, rfl⟩
          have hs := gv_at ex1_29 hs
          refine lv_iinc (v := x1_29) (lv' := [(1, .int x1_29), (0, .ref (q 46))]) C.1 C.2.1 dX8_canMend_29 hl (k := 1) rfl (by rw [ex1_29]; rfl) (by decide) rfl (fun ls hl => ?_)
          refine lv_goto (tgt := 2) C.1 C.2.1 dX8_canMend_32 (by decide) ?_
          exact ih _ _ _ _ _ _ _ _ _ _ hs hI (lv_sub hl [1, 0] rfl) kk0 kk1
        · have hs := if_t cn hs
          have eo := (Option.some.inj hs).symm
          exact kk0  _ _ _ eo hI (lv_sub hl [] rfl)
  obtain ⟨o_2, hL, hs⟩ := bd_e hs
  refine KL_2 FU _ _ _ _ _ _ _ _ _ _ hL hI (lv_sub hl [1, 0] rfl) (fun H locs ls eo hI hl => ?_) (fun H locs ls eo hI hl => ?_)
  · rw [eo] at hs
    refine lv_iconst (v := 0) C.1 C.2.1 dX8_canMend_27 (by decide) ?_
    obtain rfl := Option.some.inj hs
    exact M_zret C hI (by decide) dX8_canMend_28
  · rw [eo] at hs
    refine lv_aload_n C.1 C.2.1 dX8_canMend_35 rfl (lv_at hl 0 rfl) ?_
    refine mg_41 C hI dX8_canMend_36 ?_
    obtain ⟨v_47, ev_47, hs⟩ := gv_ex hs
    have KP_47 : W p l e (rmL 0) s m args below meth c H locs 0 0 (MQ below (mQ D cy q (some (.int r)) I J A B) args s 0 0 (MA q)) (F0 m 47 ls [.int v_47]) := by
      obtain rfl := Option.some.inj hs
      exact M_zret C hI (isB_ev ev_47 (by (repeat' split) <;> decide)) dX8_canMend_47
    refine lv_if_le (tgt := 46) C.1 C.2.1 dX8_canMend_39 (by decide) (fun cn => ?_) (fun cn => ?_)
    · have ev_47 := if_t' cn ev_47
      refine lv_iconst (v := 0) C.1 C.2.1 dX8_canMend_46 (by decide) ?_
      subst ev_47
      exact KP_47
    · have ev_47 := if_f' cn ev_47
      refine lv_iconst (v := 1) C.1 C.2.1 dX8_canMend_42 (by decide) ?_
      refine lv_goto (tgt := 47) C.1 C.2.1 dX8_canMend_43 (by decide) ?_
      subst ev_47
      exact KP_47

def lX8_ones_4 : Nat → Int32 → Int32 → Int32 → Option (Int32)
  | 0, _, _, _ => none
  | n + 1, x0, x1, x2 =>
    if (9 : Int32) ≤ x2 then
    (some x1)
    else
    gv (x1 + ((x0 >>> (x2 &&& 31)) &&& (1 : Int32))) fun x1_17 =>
    gv (x2 + 1) fun x2_18 =>
    lX8_ones_4 n x0 x1_17 x2_18
def sX8_ones (x0 : Int32) : Option ((Int32)) :=
(lX8_ones_4 FU x0 (0 : Int32) (0 : Int32)).bind fun x1_4 =>
some x1_4
set_option maxRecDepth 100000 in
set_option maxHeartbeats 8000000 in
theorem kX8_ones (l : Launch) (x0 : Int32) (r : Int32) (hs : sX8_ones x0 = some r) : McS l yX8_ones cX8_ones 3 (some .int) 0 [.int x0] (some (.int r)) := by
  refine S_start rfl (Nat.le_of_ble_eq_true rfl) ?_
  intro p e s m args below meth c H locs C hI ls hl
  have hl : lv_has ls 3 [(0, .int x0)] := hl
  rw [sX8_ones] at hs
  refine lv_iconst (v := 0) C.1 C.2.1 dX8_ones_0 (by decide) ?_
  refine lv_istore_n (lv' := [(1, .int (0 : Int32)), (0, .int x0)]) C.1 C.2.1 dX8_ones_1 rfl hl (by decide) rfl (fun ls hl => ?_)
  refine lv_iconst (v := 0) C.1 C.2.1 dX8_ones_2 (by decide) ?_
  refine lv_istore_n (lv' := [(2, .int (0 : Int32)), (1, .int (0 : Int32)), (0, .int x0)]) C.1 C.2.1 dX8_ones_3 rfl hl (by decide) rfl (fun ls hl => ?_)
  have KL_4 : ∀ (n : Nat) (x0 : Int32) (x1 : Int32) (x2 : Int32) (o : Int32) (Q : State → Prop) (H : Heap) (locs : List Loc) (ls : Array Slot), lX8_ones_4 n x0 x1 x2 = some o → (H = s.heap ∧ locs = []) → lv_has ls 3 [(0, .int x0), (1, .int x1), (2, .int x2)] → (∀ (o1_0 : Int32) (H : Heap) (locs : List Loc) (ls : Array Slot), o = o1_0 → (H = s.heap ∧ locs = []) → lv_has ls 3 [(1, .int o1_0)] → W p l e (rmL 0) s m args below meth c H locs 0 0 Q (F0 m 24 ls [])) → W p l e (rmL 0) s m args below meth c H locs 0 0 Q (F0 m 4 ls []) := by
    intro n; induction n with
    | zero => intro x0 x1 x2 o Q H locs ls hs; rw [lX8_ones_4] at hs; cases hs
    | succ n ih =>
      intro x0 x1 x2 o Q H locs ls hs hI hl kk0
      rw [lX8_ones_4] at hs
      refine lv_iload_n C.1 C.2.1 dX8_ones_4 rfl (lv_at hl 2 rfl) ?_
      refine lv_bipush (v := 9) C.1 C.2.1 dX8_ones_5 (by decide) ?_
      refine lv_icmp_ge (tgt := 24) C.1 C.2.1 dX8_ones_7 (by decide) (fun cn => ?_) (fun cn => ?_)
      · have hs := if_t cn hs
        have eo := (Option.some.inj hs).symm
        exact kk0 _ _ _ _ eo hI (lv_sub hl [1] rfl)
      · have hs := if_f cn hs
        refine lv_iload_n C.1 C.2.1 dX8_ones_10 rfl (lv_at hl 1 rfl) ?_
        refine lv_iload_n C.1 C.2.1 dX8_ones_11 rfl (lv_at hl 0 rfl) ?_
        refine lv_iload_n C.1 C.2.1 dX8_ones_12 rfl (lv_at hl 2 rfl) ?_
        refine lv_ishr C.1 C.2.1 dX8_ones_13 ?_
        refine lv_iconst (v := 1) C.1 C.2.1 dX8_ones_14 (by decide) ?_
        refine lv_iand C.1 C.2.1 dX8_ones_15 ?_
        refine lv_iadd C.1 C.2.1 dX8_ones_16 ?_
        refine lv_topi (fun x1_17 ex1_17 => ?_)
        have hs := gv_at ex1_17 hs
        refine lv_istore_n (lv' := [(1, .int x1_17), (0, .int x0), (2, .int x2)]) C.1 C.2.1 dX8_ones_17 rfl hl (by decide) rfl (fun ls hl => ?_)
        obtain ⟨x2_18, ex2_18⟩ : ∃ y : Int32, y = (x2 + 1) := ⟨_, rfl⟩
        have hs := gv_at ex2_18 hs
        refine lv_iinc (v := x2_18) (lv' := [(2, .int x2_18), (1, .int x1_17), (0, .int x0)]) C.1 C.2.1 dX8_ones_18 hl (k := 2) rfl (by rw [ex2_18]; rfl) (by decide) rfl (fun ls hl => ?_)
        refine lv_goto (tgt := 4) C.1 C.2.1 dX8_ones_21 (by decide) ?_
        exact ih _ _ _ _ _ _ _ _ hs hI (lv_sub hl [2, 1, 0] rfl) kk0
  obtain ⟨x1_4, hL, hs⟩ := bd_e hs
  refine KL_4 FU _ _ _ _ _ _ _ _ hL hI (lv_sub hl [2, 1, 0] rfl) (fun z0 H locs ls eo hI hl => ?_)
  subst eo
  refine lv_iload_n C.1 C.2.1 dX8_ones_24 rfl (lv_at hl 0 rfl) ?_
  obtain rfl := Option.some.inj hs
  exact S_iret C hI dX8_ones_25

def sX8_knows (x1 : Int32) (x2 : Int32) (x3 : Int32) (I : Nat → Int32) (J : Nat → Int64) (A : Nat → Nat → Int32) (B : Nat → Nat → Int64) : Option ((Nat → Nat → Int32)) :=
gv (((573 : Int32) + ((8 : Int32) * x1)) + x2) fun x4_10 =>
ck (inB x4_10 8047) <|
if (A 1 (ix x4_10)) = (-1 : Int32) then
(ck (inB x4_10 8047) <|
gv (va_up A 1 (upd (A 1) (ix x4_10) x3)) fun A =>
some A)
else
ck (inB x4_10 8047) <|
if (A 1 (ix x4_10)) ≤ x3 then
(some A)
else
ck (inB x4_10 8047) <|
gv (va_up A 1 (upd (A 1) (ix x4_10) x3)) fun A =>
some A
set_option maxRecDepth 100000 in
set_option maxHeartbeats 8000000 in
theorem kX8_knows (l : Launch) (D : va_G) (cy : Nat → ClassId) (q : Nat → Nat) (x1 : Int32) (x2 : Int32) (x3 : Int32) (I : Nat → Int32) (J : Nat → Int64) (A : Nat → Nat → Int32) (B : Nat → Nat → Int64) (A2 : Nat → Nat → Int32) (hs : sX8_knows x1 x2 x3 I J A B = some A2) : McI l yX8_knows cX8_knows 5 none 0 [.ref (q 46), .int x1, .int x2, .int x3] D cy q I J A B none I J A2 B := by
  refine M_start rfl rfl (Nat.le_of_ble_eq_true rfl) ?_
  intro p e s m args below meth c H locs C hI ls hl
  have hl : lv_has ls 5 [(0, .ref (q 46)), (1, .int x1), (2, .int x2), (3, .int x3)] := hl
  rw [sX8_knows] at hs
  refine lv_sipush (v := 573) C.1 C.2.1 dX8_knows_0 (by decide) ?_
  refine lv_bipush (v := 8) C.1 C.2.1 dX8_knows_3 (by decide) ?_
  refine lv_iload_n C.1 C.2.1 dX8_knows_5 rfl (lv_at hl 1 rfl) ?_
  refine lv_imul C.1 C.2.1 dX8_knows_6 ?_
  refine lv_iadd C.1 C.2.1 dX8_knows_7 ?_
  refine lv_iload_n C.1 C.2.1 dX8_knows_8 rfl (lv_at hl 2 rfl) ?_
  refine lv_iadd C.1 C.2.1 dX8_knows_9 ?_
  refine lv_topi (fun x4_10 ex4_10 => ?_)
  have hs := gv_at ex4_10 hs
  refine lv_istore (lv' := [(4, .int x4_10), (0, .ref (q 46)), (1, .int x1), (2, .int x2), (3, .int x3)]) C.1 C.2.1 dX8_knows_10 hl (by decide) rfl (fun ls hl => ?_)
  refine lv_aload_n C.1 C.2.1 dX8_knows_12 rfl (lv_at hl 1 rfl) ?_
  refine mg_1 C hI dX8_knows_13 ?_
  refine lv_iload C.1 C.2.1 dX8_knows_16 (lv_at hl 0 rfl) ?_
  obtain ⟨hk, hs⟩ := ck_e hs
  refine ma_1 C hI hk dX8_knows_18 ?_
  refine lv_iconst (v := -1) C.1 C.2.1 dX8_knows_19 (by decide) ?_
  refine lv_icmp_eq (tgt := 34) C.1 C.2.1 dX8_knows_20 (by decide) (fun cn => ?_) (fun cn => ?_)
  · have hs := if_t cn hs
    refine lv_aload_n C.1 C.2.1 dX8_knows_34 rfl (lv_at hl 1 rfl) ?_
    refine mg_1 C hI dX8_knows_35 ?_
    refine lv_iload C.1 C.2.1 dX8_knows_38 (lv_at hl 0 rfl) ?_
    refine lv_iload_n C.1 C.2.1 dX8_knows_40 rfl (lv_at hl 4 rfl) ?_
    obtain ⟨hk, hs⟩ := ck_e hs
    refine ms_1 C hI hk dX8_knows_41 (fun H locs hI => ?_)
    have hs := gv_be hs
    obtain rfl := Option.some.inj hs
    exact M_vret C hI dX8_knows_42
  · have hs := if_f cn hs
    refine lv_iload_n C.1 C.2.1 dX8_knows_23 rfl (lv_at hl 4 rfl) ?_
    refine lv_aload_n C.1 C.2.1 dX8_knows_24 rfl (lv_at hl 1 rfl) ?_
    refine mg_1 C hI dX8_knows_25 ?_
    refine lv_iload C.1 C.2.1 dX8_knows_28 (lv_at hl 0 rfl) ?_
    obtain ⟨hk, hs⟩ := ck_e hs
    refine ma_1 C hI hk dX8_knows_30 ?_
    refine lv_icmp_ge (tgt := 42) C.1 C.2.1 dX8_knows_31 (by decide) (fun cn => ?_) (fun cn => ?_)
    · have hs := if_t cn hs
      obtain rfl := Option.some.inj hs
      exact M_vret C hI dX8_knows_42
    · have hs := if_f cn hs
      refine lv_aload_n C.1 C.2.1 dX8_knows_34 rfl (lv_at hl 1 rfl) ?_
      refine mg_1 C hI dX8_knows_35 ?_
      refine lv_iload C.1 C.2.1 dX8_knows_38 (lv_at hl 0 rfl) ?_
      refine lv_iload_n C.1 C.2.1 dX8_knows_40 rfl (lv_at hl 4 rfl) ?_
      obtain ⟨hk, hs⟩ := ck_e hs
      refine ms_1 C hI hk dX8_knows_41 (fun H locs hI => ?_)
      have hs := gv_be hs
      obtain rfl := Option.some.inj hs
      exact M_vret C hI dX8_knows_42

def sX8_knewBy (x1 : Int32) (x2 : Int32) (x3 : Int32) (I : Nat → Int32) (J : Nat → Int64) (A : Nat → Nat → Int32) (B : Nat → Nat → Int64) : Option ((Int32)) :=
ck (inB (((573 : Int32) + ((8 : Int32) * x1)) + x2) 8047) <|
gv (A 1 (ix (((573 : Int32) + ((8 : Int32) * x1)) + x2))) fun x4_15 =>
gv (if x4_15 = (-1 : Int32) then (0 : Int32) else (if x3 < x4_15 then (0 : Int32) else (1 : Int32))) fun v_34 =>
some v_34
set_option maxRecDepth 100000 in
set_option maxHeartbeats 8000000 in
theorem kX8_knewBy (l : Launch) (D : va_G) (cy : Nat → ClassId) (q : Nat → Nat) (x1 : Int32) (x2 : Int32) (x3 : Int32) (I : Nat → Int32) (J : Nat → Int64) (A : Nat → Nat → Int32) (B : Nat → Nat → Int64) (r : Int32) (hs : sX8_knewBy x1 x2 x3 I J A B = some r) : McI l yX8_knewBy cX8_knewBy 5 (some .boolean) 0 [.ref (q 46), .int x1, .int x2, .int x3] D cy q I J A B (some (.int r)) I J A B := by
  refine M_start rfl rfl (Nat.le_of_ble_eq_true rfl) ?_
  intro p e s m args below meth c H locs C hI ls hl
  have hl : lv_has ls 5 [(0, .ref (q 46)), (1, .int x1), (2, .int x2), (3, .int x3)] := hl
  rw [sX8_knewBy] at hs
  refine lv_aload_n C.1 C.2.1 dX8_knewBy_0 rfl (lv_at hl 0 rfl) ?_
  refine mg_1 C hI dX8_knewBy_1 ?_
  refine lv_sipush (v := 573) C.1 C.2.1 dX8_knewBy_4 (by decide) ?_
  refine lv_bipush (v := 8) C.1 C.2.1 dX8_knewBy_7 (by decide) ?_
  refine lv_iload_n C.1 C.2.1 dX8_knewBy_9 rfl (lv_at hl 1 rfl) ?_
  refine lv_imul C.1 C.2.1 dX8_knewBy_10 ?_
  refine lv_iadd C.1 C.2.1 dX8_knewBy_11 ?_
  refine lv_iload_n C.1 C.2.1 dX8_knewBy_12 rfl (lv_at hl 2 rfl) ?_
  refine lv_iadd C.1 C.2.1 dX8_knewBy_13 ?_
  obtain ⟨hk, hs⟩ := ck_e hs
  refine ma_1 C hI hk dX8_knewBy_14 ?_
  refine lv_topi (fun x4_15 ex4_15 => ?_)
  have hs := gv_at ex4_15 hs
  refine lv_istore (lv' := [(4, .int x4_15), (0, .ref (q 46)), (1, .int x1), (2, .int x2), (3, .int x3)]) C.1 C.2.1 dX8_knewBy_15 hl (by decide) rfl (fun ls hl => ?_)
  refine lv_iload C.1 C.2.1 dX8_knewBy_17 (lv_at hl 0 rfl) ?_
  refine lv_iconst (v := -1) C.1 C.2.1 dX8_knewBy_19 (by decide) ?_
  obtain ⟨v_34, ev_34, hs⟩ := gv_ex hs
  have KP_34 : W p l e (rmL 0) s m args below meth c H locs 0 0 (MQ below (mQ D cy q (some (.int r)) I J A B) args s 0 0 (MA q)) (F0 m 34 ls [.int v_34]) := by
    obtain rfl := Option.some.inj hs
    exact M_zret C hI (isB_ev ev_34 (by (repeat' split) <;> decide)) dX8_knewBy_34
  refine lv_icmp_eq (tgt := 33) C.1 C.2.1 dX8_knewBy_20 (by decide) (fun cn => ?_) (fun cn => ?_)
  · have ev_34 := if_t' cn ev_34
    refine lv_iconst (v := 0) C.1 C.2.1 dX8_knewBy_33 (by decide) ?_
    subst ev_34
    exact KP_34
  · have ev_34 := if_f' cn ev_34
    refine lv_iload C.1 C.2.1 dX8_knewBy_23 (lv_at hl 0 rfl) ?_
    refine lv_iload_n C.1 C.2.1 dX8_knewBy_25 rfl (lv_at hl 4 rfl) ?_
    refine lv_icmp_gt (tgt := 33) C.1 C.2.1 dX8_knewBy_26 (by decide) (fun cn => ?_) (fun cn => ?_)
    · have ev_34 := if_t' cn ev_34
      refine lv_iconst (v := 0) C.1 C.2.1 dX8_knewBy_33 (by decide) ?_
      subst ev_34
      exact KP_34
    · have ev_34 := if_f' cn ev_34
      refine lv_iconst (v := 1) C.1 C.2.1 dX8_knewBy_29 (by decide) ?_
      refine lv_goto (tgt := 34) C.1 C.2.1 dX8_knewBy_30 (by decide) ?_
      subst ev_34
      exact KP_34

def sX8_count (x1 : Int32) (I : Nat → Int32) (J : Nat → Int64) (A : Nat → Nat → Int32) (B : Nat → Nat → Int64) : Option ((Int32)) :=
if x1 = 0 then
(some (A 1 (ix (1633 : Int32))))
else
if x1 = 1 then
(some (A 1 (ix (1634 : Int32))))
else
if x1 = 2 then
(some (A 1 (ix (1635 : Int32))))
else
if x1 = 3 then
(some (I 41))
else
if x1 = 4 then
(some (A 1 (ix (1636 : Int32))))
else
if x1 = 5 then
(some (A 1 (ix (1637 : Int32))))
else
if x1 = 6 then
(some (A 1 (ix (1638 : Int32))))
else
if x1 = 7 then
(some (I 20))
else
some (-1 : Int32)
set_option maxRecDepth 100000 in
set_option maxHeartbeats 8000000 in
theorem kX8_count (l : Launch) (D : va_G) (cy : Nat → ClassId) (q : Nat → Nat) (x1 : Int32) (I : Nat → Int32) (J : Nat → Int64) (A : Nat → Nat → Int32) (B : Nat → Nat → Int64) (r : Int32) (hs : sX8_count x1 I J A B = some r) : McI l yX8_count cX8_count 2 (some .int) 0 [.ref (q 46), .int x1] D cy q I J A B (some (.int r)) I J A B := by
  refine M_start rfl rfl (Nat.le_of_ble_eq_true rfl) ?_
  intro p e s m args below meth c H locs C hI ls hl
  have hl : lv_has ls 2 [(0, .ref (q 46)), (1, .int x1)] := hl
  rw [sX8_count] at hs
  refine lv_iload_n C.1 C.2.1 dX8_count_0 rfl (lv_at hl 1 rfl) ?_
  by_cases c0 : x1 = 0
  · have hs := if_t c0 hs
    refine lv_tableIn (off := 47) (tgt := 48) C.1 C.2.1 dX8_count_1 (by rw [c0]; decide) (by rw [c0]; decide) (by rw [c0]; rfl) (by decide) ?_
    refine lv_aload_n C.1 C.2.1 dX8_count_48 rfl (lv_at hl 0 rfl) ?_
    refine mg_1 C hI dX8_count_49 ?_
    refine lv_sipush (v := 1633) C.1 C.2.1 dX8_count_52 (by decide) ?_
    refine ma_1 C hI (by decide) dX8_count_55 ?_
    obtain rfl := Option.some.inj hs
    exact M_iret C hI dX8_count_56
  have hs := if_f c0 hs
  by_cases c1 : x1 = 1
  · have hs := if_t c1 hs
    refine lv_tableIn (off := 56) (tgt := 57) C.1 C.2.1 dX8_count_1 (by rw [c1]; decide) (by rw [c1]; decide) (by rw [c1]; rfl) (by decide) ?_
    refine lv_aload_n C.1 C.2.1 dX8_count_57 rfl (lv_at hl 0 rfl) ?_
    refine mg_1 C hI dX8_count_58 ?_
    refine lv_sipush (v := 1634) C.1 C.2.1 dX8_count_61 (by decide) ?_
    refine ma_1 C hI (by decide) dX8_count_64 ?_
    obtain rfl := Option.some.inj hs
    exact M_iret C hI dX8_count_65
  have hs := if_f c1 hs
  by_cases c2 : x1 = 2
  · have hs := if_t c2 hs
    refine lv_tableIn (off := 65) (tgt := 66) C.1 C.2.1 dX8_count_1 (by rw [c2]; decide) (by rw [c2]; decide) (by rw [c2]; rfl) (by decide) ?_
    refine lv_aload_n C.1 C.2.1 dX8_count_66 rfl (lv_at hl 0 rfl) ?_
    refine mg_1 C hI dX8_count_67 ?_
    refine lv_sipush (v := 1635) C.1 C.2.1 dX8_count_70 (by decide) ?_
    refine ma_1 C hI (by decide) dX8_count_73 ?_
    obtain rfl := Option.some.inj hs
    exact M_iret C hI dX8_count_74
  have hs := if_f c2 hs
  by_cases c3 : x1 = 3
  · have hs := if_t c3 hs
    refine lv_tableIn (off := 74) (tgt := 75) C.1 C.2.1 dX8_count_1 (by rw [c3]; decide) (by rw [c3]; decide) (by rw [c3]; rfl) (by decide) ?_
    refine lv_aload_n C.1 C.2.1 dX8_count_75 rfl (lv_at hl 0 rfl) ?_
    refine mg_41 C hI dX8_count_76 ?_
    obtain rfl := Option.some.inj hs
    exact M_iret C hI dX8_count_79
  have hs := if_f c3 hs
  by_cases c4 : x1 = 4
  · have hs := if_t c4 hs
    refine lv_tableIn (off := 79) (tgt := 80) C.1 C.2.1 dX8_count_1 (by rw [c4]; decide) (by rw [c4]; decide) (by rw [c4]; rfl) (by decide) ?_
    refine lv_aload_n C.1 C.2.1 dX8_count_80 rfl (lv_at hl 0 rfl) ?_
    refine mg_1 C hI dX8_count_81 ?_
    refine lv_sipush (v := 1636) C.1 C.2.1 dX8_count_84 (by decide) ?_
    refine ma_1 C hI (by decide) dX8_count_87 ?_
    obtain rfl := Option.some.inj hs
    exact M_iret C hI dX8_count_88
  have hs := if_f c4 hs
  by_cases c5 : x1 = 5
  · have hs := if_t c5 hs
    refine lv_tableIn (off := 88) (tgt := 89) C.1 C.2.1 dX8_count_1 (by rw [c5]; decide) (by rw [c5]; decide) (by rw [c5]; rfl) (by decide) ?_
    refine lv_aload_n C.1 C.2.1 dX8_count_89 rfl (lv_at hl 0 rfl) ?_
    refine mg_1 C hI dX8_count_90 ?_
    refine lv_sipush (v := 1637) C.1 C.2.1 dX8_count_93 (by decide) ?_
    refine ma_1 C hI (by decide) dX8_count_96 ?_
    obtain rfl := Option.some.inj hs
    exact M_iret C hI dX8_count_97
  have hs := if_f c5 hs
  by_cases c6 : x1 = 6
  · have hs := if_t c6 hs
    refine lv_tableIn (off := 97) (tgt := 98) C.1 C.2.1 dX8_count_1 (by rw [c6]; decide) (by rw [c6]; decide) (by rw [c6]; rfl) (by decide) ?_
    refine lv_aload_n C.1 C.2.1 dX8_count_98 rfl (lv_at hl 0 rfl) ?_
    refine mg_1 C hI dX8_count_99 ?_
    refine lv_sipush (v := 1638) C.1 C.2.1 dX8_count_102 (by decide) ?_
    refine ma_1 C hI (by decide) dX8_count_105 ?_
    obtain rfl := Option.some.inj hs
    exact M_iret C hI dX8_count_106
  have hs := if_f c6 hs
  by_cases c7 : x1 = 7
  · have hs := if_t c7 hs
    refine lv_tableIn (off := 106) (tgt := 107) C.1 C.2.1 dX8_count_1 (by rw [c7]; decide) (by rw [c7]; decide) (by rw [c7]; rfl) (by decide) ?_
    refine lv_aload_n C.1 C.2.1 dX8_count_107 rfl (lv_at hl 0 rfl) ?_
    refine mg_20 C hI dX8_count_108 ?_
    obtain rfl := Option.some.inj hs
    exact M_iret C hI dX8_count_111
  have hs := if_f c7 hs
  refine lv_tableOut (tgt := 112) C.1 C.2.1 dX8_count_1 (tab_out8 c0 c1 c2 c3 c4 c5 c6 c7) (by decide) ?_
  refine lv_iconst (v := -1) C.1 C.2.1 dX8_count_112 (by decide) ?_
  obtain rfl := Option.some.inj hs
  exact M_iret C hI dX8_count_113

def sX8_status (I : Nat → Int32) (J : Nat → Int64) (A : Nat → Nat → Int32) (B : Nat → Nat → Int64) : Option ((Int32)) :=
some (I 0)
set_option maxRecDepth 100000 in
set_option maxHeartbeats 8000000 in
theorem kX8_status (l : Launch) (D : va_G) (cy : Nat → ClassId) (q : Nat → Nat) (I : Nat → Int32) (J : Nat → Int64) (A : Nat → Nat → Int32) (B : Nat → Nat → Int64) (r : Int32) (hs : sX8_status I J A B = some r) : McI l yX8_status cX8_status 1 (some .int) 0 [.ref (q 46)] D cy q I J A B (some (.int r)) I J A B := by
  refine M_start rfl rfl (Nat.le_of_ble_eq_true rfl) ?_
  intro p e s m args below meth c H locs C hI ls hl
  have hl : lv_has ls 1 [(0, .ref (q 46))] := hl
  rw [sX8_status] at hs
  refine lv_aload_n C.1 C.2.1 dX8_status_0 rfl (lv_at hl 0 rfl) ?_
  refine mg_0 C hI dX8_status_1 ?_
  obtain rfl := Option.some.inj hs
  exact M_iret C hI dX8_status_4

def lX8_image_17 : Nat → Int32 → Int32 → (Nat → Int32) → (Nat → Int64) → (Nat → Nat → Int32) → (Nat → Nat → Int64) → Option ((Nat → Nat → Int32))
  | 0, _, _, _, _, _, _ => none
  | n + 1, x1, x2, I, J, A, B =>
    if (8047 : Int32) ≤ x2 then
    (some A)
    else
    ck (inB x2 8047) <|
    ck (inB (((8047 : Int32) * x1) + x2) 16094) <|
    gv (va_up A 2 (upd (A 2) (ix (((8047 : Int32) * x1) + x2)) (A 1 (ix x2)))) fun A =>
    gv (x2 + 1) fun x2_42 =>
    lX8_image_17 n x1 x2_42 I J A B
def sX8_image (x1 : Int32) (I : Nat → Int32) (J : Nat → Int64) (A : Nat → Nat → Int32) (B : Nat → Nat → Int64) : Option ((Int32) × (Nat → Int32) × (Nat → Nat → Int32)) :=
(sX8_in x1 (0 : Int32) (1 : Int32)).bind fun r_3 =>
if r_3 = 0 then
((sX8_refuses (-1 : Int32) I J A B).bind fun (r_11, I) =>
some (r_11, I, A))
else
(lX8_image_17 FU x1 (0 : Int32) I J A B).bind fun A =>
ck (inB x1 2) <|
gv (va_up A 3 (upd (A 3) (ix x1) (vp_nar .boolean (1 : Int32)))) fun A =>
(sX8_good (0 : Int32) I J A B).bind fun (r_57, I) =>
some (r_57, I, A)
set_option maxRecDepth 100000 in
set_option maxHeartbeats 8000000 in
theorem kX8_image (l : Launch) (D : va_G) (cy : Nat → ClassId) (q : Nat → Nat) (x1 : Int32) (I : Nat → Int32) (J : Nat → Int64) (A : Nat → Nat → Int32) (B : Nat → Nat → Int64) (r : Int32) (I2 : Nat → Int32) (A2 : Nat → Nat → Int32) (hs : sX8_image x1 I J A B = some (r, I2, A2)) : McI l yX8_image cX8_image 3 (some .int) 1 [.ref (q 46), .int x1] D cy q I J A B (some (.int r)) I2 J A2 B := by
  refine M_start rfl rfl (Nat.le_of_ble_eq_true rfl) ?_
  intro p e s m args below meth c H locs C hI ls hl
  have hl : lv_has ls 3 [(0, .ref (q 46)), (1, .int x1)] := hl
  rw [sX8_image] at hs
  refine lv_iload_n C.1 C.2.1 dX8_image_0 rfl (lv_at hl 1 rfl) ?_
  refine lv_iconst (v := 0) C.1 C.2.1 dX8_image_1 (by decide) ?_
  refine lv_iconst (v := 1) C.1 C.2.1 dX8_image_2 (by decide) ?_
  obtain ⟨r_3, hc, hs⟩ := bd_e hs
  refine S_call (h := 1) C (kX8_in l _ _ _ _ hc) ml_X8_83 st_X8_in ini_X8 co_X8_in hyX8_in rfl ⟨by decide, by decide⟩ hl.1 rfl (Nat.le_of_ble_eq_true rfl) dX8_image_3 ⟨Nat.le_refl 0, Nat.le_refl 0, Nat.le_refl _, Nat.le_refl _⟩ ?_
  refine lv_if_ne (tgt := 15) C.1 C.2.1 dX8_image_6 (by decide) (fun cn => ?_) (fun cn => ?_)
  · have hs := if_f cn hs
    refine lv_iconst (v := 0) C.1 C.2.1 dX8_image_15 (by decide) ?_
    refine lv_istore_n (lv' := [(2, .int (0 : Int32)), (0, .ref (q 46)), (1, .int x1)]) C.1 C.2.1 dX8_image_16 rfl hl (by decide) rfl (fun ls hl => ?_)
    have KL_17 : ∀ (n : Nat) (x1 : Int32) (x2 : Int32) (I : Nat → Int32) (J : Nat → Int64) (A : Nat → Nat → Int32) (B : Nat → Nat → Int64) (o : (Nat → Nat → Int32)) (Q : State → Prop) (H : Heap) (locs : List Loc) (ls : Array Slot), lX8_image_17 n x1 x2 I J A B = some o → MI D cy s s.heap H locs q I J A B → lv_has ls 3 [(0, .ref (q 46)), (1, .int x1), (2, .int x2)] → (∀ (A_0 : Nat → Nat → Int32) (H : Heap) (locs : List Loc) (ls : Array Slot), o = A_0 → MI D cy s s.heap H locs q I J A_0 B → lv_has ls 3 [(0, .ref (q 46)), (1, .int x1)] → W p l e (rmL 1) s m args below meth c H locs 0 0 Q (F0 m 48 ls [])) → W p l e (rmL 1) s m args below meth c H locs 0 0 Q (F0 m 17 ls []) := by
      intro n; induction n with
      | zero => intro x1 x2 I J A B o Q H locs ls hs; rw [lX8_image_17] at hs; cases hs
      | succ n ih =>
        intro x1 x2 I J A B o Q H locs ls hs hI hl kk0
        rw [lX8_image_17] at hs
        refine lv_iload_n C.1 C.2.1 dX8_image_17 rfl (lv_at hl 2 rfl) ?_
        refine lv_sipush (v := 8047) C.1 C.2.1 dX8_image_18 (by decide) ?_
        refine lv_icmp_ge (tgt := 48) C.1 C.2.1 dX8_image_21 (by decide) (fun cn => ?_) (fun cn => ?_)
        · have hs := if_t cn hs
          have eo := (Option.some.inj hs).symm
          exact kk0 _ _ _ _ eo hI (lv_sub hl [0, 1] rfl)
        · have hs := if_f cn hs
          refine lv_aload_n C.1 C.2.1 dX8_image_24 rfl (lv_at hl 0 rfl) ?_
          refine mg_2 C hI dX8_image_25 ?_
          refine lv_sipush (v := 8047) C.1 C.2.1 dX8_image_28 (by decide) ?_
          refine lv_iload_n C.1 C.2.1 dX8_image_31 rfl (lv_at hl 1 rfl) ?_
          refine lv_imul C.1 C.2.1 dX8_image_32 ?_
          refine lv_iload_n C.1 C.2.1 dX8_image_33 rfl (lv_at hl 2 rfl) ?_
          refine lv_iadd C.1 C.2.1 dX8_image_34 ?_
          refine lv_aload_n C.1 C.2.1 dX8_image_35 rfl (lv_at hl 0 rfl) ?_
          refine mg_1 C hI dX8_image_36 ?_
          refine lv_iload_n C.1 C.2.1 dX8_image_39 rfl (lv_at hl 2 rfl) ?_
          obtain ⟨hk, hs⟩ := ck_e hs
          refine ma_1 C hI hk dX8_image_40 ?_
          obtain ⟨hk, hs⟩ := ck_e hs
          refine ms_2 C hI hk dX8_image_41 (fun H locs hI => ?_)
          have hs := gv_be hs
          obtain ⟨x2_42, ex2_42⟩ : ∃ y : Int32, y = (x2 + 1) := ⟨_, rfl⟩
          have hs := gv_at ex2_42 hs
          refine lv_iinc (v := x2_42) (lv' := [(2, .int x2_42), (0, .ref (q 46)), (1, .int x1)]) C.1 C.2.1 dX8_image_42 hl (k := 2) rfl (by rw [ex2_42]; rfl) (by decide) rfl (fun ls hl => ?_)
          refine lv_goto (tgt := 17) C.1 C.2.1 dX8_image_45 (by decide) ?_
          exact ih _ _ _ _ _ _ _ _ _ _ _ hs hI (lv_sub hl [1, 2, 0] rfl) kk0
    obtain ⟨A_L, hL, hs⟩ := bd_e hs
    refine KL_17 FU _ _ _ _ _ _ _ _ _ _ _ hL hI (lv_sub hl [1, 2, 0] rfl) (fun z0 H locs ls eo hI hl => ?_)
    subst eo
    refine lv_aload_n C.1 C.2.1 dX8_image_48 rfl (lv_at hl 0 rfl) ?_
    refine mg_3 C hI dX8_image_49 ?_
    refine lv_iload_n C.1 C.2.1 dX8_image_52 rfl (lv_at hl 1 rfl) ?_
    refine lv_iconst (v := 1) C.1 C.2.1 dX8_image_53 (by decide) ?_
    obtain ⟨hk, hs⟩ := ck_e hs
    refine ms_3 C hI hk dX8_image_54 (fun H locs hI => ?_)
    have hs := gv_be hs
    refine lv_aload_n C.1 C.2.1 dX8_image_55 rfl (lv_at hl 0 rfl) ?_
    refine lv_iconst (v := 0) C.1 C.2.1 dX8_image_56 (by decide) ?_
    obtain ⟨⟨r_57, I⟩, hc, hs⟩ := bd_e hs
    refine M_call C hI (kX8_good l D cy q _ _ _ _ _ _ _ hc) ml_X8_91 im_X8_good se_X8_good ini_X8 co_X8_good hyX8_good rfl ⟨by decide, by decide⟩ hl.1 rfl (Nat.le_of_ble_eq_true rfl) dX8_image_57 (fun H locs hI => ?_)
    obtain ⟨rfl, rfl, rfl⟩ := so3 hs
    exact M_iret C hI dX8_image_60
  · have hs := if_t cn hs
    refine lv_aload_n C.1 C.2.1 dX8_image_9 rfl (lv_at hl 0 rfl) ?_
    refine lv_iconst (v := -1) C.1 C.2.1 dX8_image_10 (by decide) ?_
    obtain ⟨⟨r_11, I⟩, hc, hs⟩ := bd_e hs
    refine M_call C hI (kX8_refuses l D cy q _ _ _ _ _ _ _ hc) ml_X8_87 im_X8_refuses se_X8_refuses ini_X8 co_X8_refuses hyX8_refuses rfl ⟨by decide, by decide⟩ hl.1 rfl (Nat.le_of_ble_eq_true rfl) dX8_image_11 (fun H locs hI => ?_)
    obtain ⟨rfl, rfl, rfl⟩ := so3 hs
    exact M_iret C hI dX8_image_14

def lX8_back_33 : Nat → Int32 → Int32 → (Nat → Int32) → (Nat → Int64) → (Nat → Nat → Int32) → (Nat → Nat → Int64) → Option ((Nat → Nat → Int32))
  | 0, _, _, _, _, _, _ => none
  | n + 1, x1, x2, I, J, A, B =>
    if (8047 : Int32) ≤ x2 then
    (some A)
    else
    ck (inB (((8047 : Int32) * x1) + x2) 16094) <|
    ck (inB x2 8047) <|
    gv (va_up A 1 (upd (A 1) (ix x2) (A 2 (ix (((8047 : Int32) * x1) + x2))))) fun A =>
    gv (x2 + 1) fun x2_58 =>
    lX8_back_33 n x1 x2_58 I J A B
def sX8_back (x1 : Int32) (I : Nat → Int32) (J : Nat → Int64) (A : Nat → Nat → Int32) (B : Nat → Nat → Int64) : Option ((Int32) × (Nat → Int32) × (Nat → Nat → Int32)) :=
(sX8_in x1 (0 : Int32) (1 : Int32)).bind fun r_3 =>
if r_3 = 0 then
((sX8_refuses (-1 : Int32) I J A B).bind fun (r_11, I) =>
some (r_11, I, A))
else
ck (inB x1 2) <|
if (A 3 (ix x1)) = 0 then
((sX8_refuses (-2 : Int32) I J A B).bind fun (r_27, I) =>
some (r_27, I, A))
else
(lX8_back_33 FU x1 (0 : Int32) I J A B).bind fun A =>
(sX8_good (0 : Int32) I J A B).bind fun (r_66, I) =>
some (r_66, I, A)
set_option maxRecDepth 100000 in
set_option maxHeartbeats 8000000 in
theorem kX8_back (l : Launch) (D : va_G) (cy : Nat → ClassId) (q : Nat → Nat) (x1 : Int32) (I : Nat → Int32) (J : Nat → Int64) (A : Nat → Nat → Int32) (B : Nat → Nat → Int64) (r : Int32) (I2 : Nat → Int32) (A2 : Nat → Nat → Int32) (hs : sX8_back x1 I J A B = some (r, I2, A2)) : McI l yX8_back cX8_back 3 (some .int) 1 [.ref (q 46), .int x1] D cy q I J A B (some (.int r)) I2 J A2 B := by
  refine M_start rfl rfl (Nat.le_of_ble_eq_true rfl) ?_
  intro p e s m args below meth c H locs C hI ls hl
  have hl : lv_has ls 3 [(0, .ref (q 46)), (1, .int x1)] := hl
  rw [sX8_back] at hs
  refine lv_iload_n C.1 C.2.1 dX8_back_0 rfl (lv_at hl 1 rfl) ?_
  refine lv_iconst (v := 0) C.1 C.2.1 dX8_back_1 (by decide) ?_
  refine lv_iconst (v := 1) C.1 C.2.1 dX8_back_2 (by decide) ?_
  obtain ⟨r_3, hc, hs⟩ := bd_e hs
  refine S_call (h := 1) C (kX8_in l _ _ _ _ hc) ml_X8_83 st_X8_in ini_X8 co_X8_in hyX8_in rfl ⟨by decide, by decide⟩ hl.1 rfl (Nat.le_of_ble_eq_true rfl) dX8_back_3 ⟨Nat.le_refl 0, Nat.le_refl 0, Nat.le_refl _, Nat.le_refl _⟩ ?_
  refine lv_if_ne (tgt := 15) C.1 C.2.1 dX8_back_6 (by decide) (fun cn => ?_) (fun cn => ?_)
  · have hs := if_f cn hs
    refine lv_aload_n C.1 C.2.1 dX8_back_15 rfl (lv_at hl 0 rfl) ?_
    refine mg_3 C hI dX8_back_16 ?_
    refine lv_iload_n C.1 C.2.1 dX8_back_19 rfl (lv_at hl 1 rfl) ?_
    obtain ⟨hk, hs⟩ := ck_e hs
    refine ma_3 C hI hk dX8_back_20 ?_
    refine lv_if_ne (tgt := 31) C.1 C.2.1 dX8_back_21 (by decide) (fun cn => ?_) (fun cn => ?_)
    · have hs := if_f cn hs
      refine lv_iconst (v := 0) C.1 C.2.1 dX8_back_31 (by decide) ?_
      refine lv_istore_n (lv' := [(2, .int (0 : Int32)), (0, .ref (q 46)), (1, .int x1)]) C.1 C.2.1 dX8_back_32 rfl hl (by decide) rfl (fun ls hl => ?_)
      have KL_33 : ∀ (n : Nat) (x1 : Int32) (x2 : Int32) (I : Nat → Int32) (J : Nat → Int64) (A : Nat → Nat → Int32) (B : Nat → Nat → Int64) (o : (Nat → Nat → Int32)) (Q : State → Prop) (H : Heap) (locs : List Loc) (ls : Array Slot), lX8_back_33 n x1 x2 I J A B = some o → MI D cy s s.heap H locs q I J A B → lv_has ls 3 [(0, .ref (q 46)), (1, .int x1), (2, .int x2)] → (∀ (A_0 : Nat → Nat → Int32) (H : Heap) (locs : List Loc) (ls : Array Slot), o = A_0 → MI D cy s s.heap H locs q I J A_0 B → lv_has ls 3 [(0, .ref (q 46))] → W p l e (rmL 1) s m args below meth c H locs 0 0 Q (F0 m 64 ls [])) → W p l e (rmL 1) s m args below meth c H locs 0 0 Q (F0 m 33 ls []) := by
        intro n; induction n with
        | zero => intro x1 x2 I J A B o Q H locs ls hs; rw [lX8_back_33] at hs; cases hs
        | succ n ih =>
          intro x1 x2 I J A B o Q H locs ls hs hI hl kk0
          rw [lX8_back_33] at hs
          refine lv_iload_n C.1 C.2.1 dX8_back_33 rfl (lv_at hl 2 rfl) ?_
          refine lv_sipush (v := 8047) C.1 C.2.1 dX8_back_34 (by decide) ?_
          refine lv_icmp_ge (tgt := 64) C.1 C.2.1 dX8_back_37 (by decide) (fun cn => ?_) (fun cn => ?_)
          · have hs := if_t cn hs
            have eo := (Option.some.inj hs).symm
            exact kk0 _ _ _ _ eo hI (lv_sub hl [0] rfl)
          · have hs := if_f cn hs
            refine lv_aload_n C.1 C.2.1 dX8_back_40 rfl (lv_at hl 0 rfl) ?_
            refine mg_1 C hI dX8_back_41 ?_
            refine lv_iload_n C.1 C.2.1 dX8_back_44 rfl (lv_at hl 2 rfl) ?_
            refine lv_aload_n C.1 C.2.1 dX8_back_45 rfl (lv_at hl 0 rfl) ?_
            refine mg_2 C hI dX8_back_46 ?_
            refine lv_sipush (v := 8047) C.1 C.2.1 dX8_back_49 (by decide) ?_
            refine lv_iload_n C.1 C.2.1 dX8_back_52 rfl (lv_at hl 1 rfl) ?_
            refine lv_imul C.1 C.2.1 dX8_back_53 ?_
            refine lv_iload_n C.1 C.2.1 dX8_back_54 rfl (lv_at hl 2 rfl) ?_
            refine lv_iadd C.1 C.2.1 dX8_back_55 ?_
            obtain ⟨hk, hs⟩ := ck_e hs
            refine ma_2 C hI hk dX8_back_56 ?_
            obtain ⟨hk, hs⟩ := ck_e hs
            refine ms_1 C hI hk dX8_back_57 (fun H locs hI => ?_)
            have hs := gv_be hs
            obtain ⟨x2_58, ex2_58⟩ : ∃ y : Int32, y = (x2 + 1) := ⟨_, rfl⟩
            have hs := gv_at ex2_58 hs
            refine lv_iinc (v := x2_58) (lv' := [(2, .int x2_58), (0, .ref (q 46)), (1, .int x1)]) C.1 C.2.1 dX8_back_58 hl (k := 2) rfl (by rw [ex2_58]; rfl) (by decide) rfl (fun ls hl => ?_)
            refine lv_goto (tgt := 33) C.1 C.2.1 dX8_back_61 (by decide) ?_
            exact ih _ _ _ _ _ _ _ _ _ _ _ hs hI (lv_sub hl [1, 2, 0] rfl) kk0
      obtain ⟨A_L, hL, hs⟩ := bd_e hs
      refine KL_33 FU _ _ _ _ _ _ _ _ _ _ _ hL hI (lv_sub hl [1, 2, 0] rfl) (fun z0 H locs ls eo hI hl => ?_)
      subst eo
      refine lv_aload_n C.1 C.2.1 dX8_back_64 rfl (lv_at hl 0 rfl) ?_
      refine lv_iconst (v := 0) C.1 C.2.1 dX8_back_65 (by decide) ?_
      obtain ⟨⟨r_66, I⟩, hc, hs⟩ := bd_e hs
      refine M_call C hI (kX8_good l D cy q _ _ _ _ _ _ _ hc) ml_X8_91 im_X8_good se_X8_good ini_X8 co_X8_good hyX8_good rfl ⟨by decide, by decide⟩ hl.1 rfl (Nat.le_of_ble_eq_true rfl) dX8_back_66 (fun H locs hI => ?_)
      obtain ⟨rfl, rfl, rfl⟩ := so3 hs
      exact M_iret C hI dX8_back_69
    · have hs := if_t cn hs
      refine lv_aload_n C.1 C.2.1 dX8_back_24 rfl (lv_at hl 0 rfl) ?_
      refine lv_bipush (v := -2) C.1 C.2.1 dX8_back_25 (by decide) ?_
      obtain ⟨⟨r_27, I⟩, hc, hs⟩ := bd_e hs
      refine M_call C hI (kX8_refuses l D cy q _ _ _ _ _ _ _ hc) ml_X8_87 im_X8_refuses se_X8_refuses ini_X8 co_X8_refuses hyX8_refuses rfl ⟨by decide, by decide⟩ hl.1 rfl (Nat.le_of_ble_eq_true rfl) dX8_back_27 (fun H locs hI => ?_)
      obtain ⟨rfl, rfl, rfl⟩ := so3 hs
      exact M_iret C hI dX8_back_30
  · have hs := if_t cn hs
    refine lv_aload_n C.1 C.2.1 dX8_back_9 rfl (lv_at hl 0 rfl) ?_
    refine lv_iconst (v := -1) C.1 C.2.1 dX8_back_10 (by decide) ?_
    obtain ⟨⟨r_11, I⟩, hc, hs⟩ := bd_e hs
    refine M_call C hI (kX8_refuses l D cy q _ _ _ _ _ _ _ hc) ml_X8_87 im_X8_refuses se_X8_refuses ini_X8 co_X8_refuses hyX8_refuses rfl ⟨by decide, by decide⟩ hl.1 rfl (Nat.le_of_ble_eq_true rfl) dX8_back_11 (fun H locs hI => ?_)
    obtain ⟨rfl, rfl, rfl⟩ := so3 hs
    exact M_iret C hI dX8_back_14

def sX8_isJoint (x0 : Int32) : Option ((Int32)) :=
(sX8_in x0 (0 : Int32) (47 : Int32)).bind fun r_4 =>
ck (isB r_4) <|
some r_4
set_option maxRecDepth 100000 in
set_option maxHeartbeats 8000000 in
theorem kX8_isJoint (l : Launch) (x0 : Int32) (r : Int32) (hs : sX8_isJoint x0 = some r) : McS l yX8_isJoint cX8_isJoint 1 (some .boolean) 1 [.int x0] (some (.int r)) := by
  refine S_start rfl (Nat.le_of_ble_eq_true rfl) ?_
  intro p e s m args below meth c H locs C hI ls hl
  have hl : lv_has ls 1 [(0, .int x0)] := hl
  rw [sX8_isJoint] at hs
  refine lv_iload_n C.1 C.2.1 dX8_isJoint_0 rfl (lv_at hl 0 rfl) ?_
  refine lv_iconst (v := 0) C.1 C.2.1 dX8_isJoint_1 (by decide) ?_
  refine lv_bipush (v := 47) C.1 C.2.1 dX8_isJoint_2 (by decide) ?_
  obtain ⟨r_4, hc, hs⟩ := bd_e hs
  refine S_call (h := 1) C (kX8_in l _ _ _ _ hc) ml_X8_83 st_X8_in ini_X8 co_X8_in hyX8_in rfl ⟨by decide, by decide⟩ hl.1 rfl (Nat.le_of_ble_eq_true rfl) dX8_isJoint_4 ⟨Nat.le_refl 0, Nat.le_refl 0, Nat.le_refl _, Nat.le_refl _⟩ ?_
  obtain ⟨hb, hs⟩ := ck_e hs
  obtain rfl := Option.some.inj hs
  exact S_zret C hI hb dX8_isJoint_7

def sX8_isWind (x1 : Int32) (I : Nat → Int32) (J : Nat → Int64) (A : Nat → Nat → Int32) (B : Nat → Nat → Int64) : Option ((Int32)) :=
(sX8_in x1 (0 : Int32) ((A 1 (ix (1633 : Int32))) - (1 : Int32))).bind fun r_12 =>
ck (isB r_12) <|
some r_12
set_option maxRecDepth 100000 in
set_option maxHeartbeats 8000000 in
theorem kX8_isWind (l : Launch) (D : va_G) (cy : Nat → ClassId) (q : Nat → Nat) (x1 : Int32) (I : Nat → Int32) (J : Nat → Int64) (A : Nat → Nat → Int32) (B : Nat → Nat → Int64) (r : Int32) (hs : sX8_isWind x1 I J A B = some r) : McI l yX8_isWind cX8_isWind 2 (some .boolean) 1 [.ref (q 46), .int x1] D cy q I J A B (some (.int r)) I J A B := by
  refine M_start rfl rfl (Nat.le_of_ble_eq_true rfl) ?_
  intro p e s m args below meth c H locs C hI ls hl
  have hl : lv_has ls 2 [(0, .ref (q 46)), (1, .int x1)] := hl
  rw [sX8_isWind] at hs
  refine lv_iload_n C.1 C.2.1 dX8_isWind_0 rfl (lv_at hl 1 rfl) ?_
  refine lv_iconst (v := 0) C.1 C.2.1 dX8_isWind_1 (by decide) ?_
  refine lv_aload_n C.1 C.2.1 dX8_isWind_2 rfl (lv_at hl 0 rfl) ?_
  refine mg_1 C hI dX8_isWind_3 ?_
  refine lv_sipush (v := 1633) C.1 C.2.1 dX8_isWind_6 (by decide) ?_
  refine ma_1 C hI (by decide) dX8_isWind_9 ?_
  refine lv_iconst (v := 1) C.1 C.2.1 dX8_isWind_10 (by decide) ?_
  refine lv_isub C.1 C.2.1 dX8_isWind_11 ?_
  obtain ⟨r_12, hc, hs⟩ := bd_e hs
  refine S_call (h := 1) C (kX8_in l _ _ _ _ hc) ml_X8_83 st_X8_in ini_X8 co_X8_in hyX8_in rfl ⟨by decide, by decide⟩ hl.1 rfl (Nat.le_of_ble_eq_true rfl) dX8_isWind_12 ⟨Nat.le_refl 0, Nat.le_refl 0, Nat.le_refl _, Nat.le_refl _⟩ ?_
  obtain ⟨hb, hs⟩ := ck_e hs
  obtain rfl := Option.some.inj hs
  exact M_zret C hI hb dX8_isWind_15

def sX8_isText (x1 : Int32) (I : Nat → Int32) (J : Nat → Int64) (A : Nat → Nat → Int32) (B : Nat → Nat → Int64) : Option ((Int32)) :=
(sX8_in x1 (0 : Int32) ((A 1 (ix (1634 : Int32))) - (1 : Int32))).bind fun r_12 =>
ck (isB r_12) <|
some r_12
set_option maxRecDepth 100000 in
set_option maxHeartbeats 8000000 in
theorem kX8_isText (l : Launch) (D : va_G) (cy : Nat → ClassId) (q : Nat → Nat) (x1 : Int32) (I : Nat → Int32) (J : Nat → Int64) (A : Nat → Nat → Int32) (B : Nat → Nat → Int64) (r : Int32) (hs : sX8_isText x1 I J A B = some r) : McI l yX8_isText cX8_isText 2 (some .boolean) 1 [.ref (q 46), .int x1] D cy q I J A B (some (.int r)) I J A B := by
  refine M_start rfl rfl (Nat.le_of_ble_eq_true rfl) ?_
  intro p e s m args below meth c H locs C hI ls hl
  have hl : lv_has ls 2 [(0, .ref (q 46)), (1, .int x1)] := hl
  rw [sX8_isText] at hs
  refine lv_iload_n C.1 C.2.1 dX8_isText_0 rfl (lv_at hl 1 rfl) ?_
  refine lv_iconst (v := 0) C.1 C.2.1 dX8_isText_1 (by decide) ?_
  refine lv_aload_n C.1 C.2.1 dX8_isText_2 rfl (lv_at hl 0 rfl) ?_
  refine mg_1 C hI dX8_isText_3 ?_
  refine lv_sipush (v := 1634) C.1 C.2.1 dX8_isText_6 (by decide) ?_
  refine ma_1 C hI (by decide) dX8_isText_9 ?_
  refine lv_iconst (v := 1) C.1 C.2.1 dX8_isText_10 (by decide) ?_
  refine lv_isub C.1 C.2.1 dX8_isText_11 ?_
  obtain ⟨r_12, hc, hs⟩ := bd_e hs
  refine S_call (h := 1) C (kX8_in l _ _ _ _ hc) ml_X8_83 st_X8_in ini_X8 co_X8_in hyX8_in rfl ⟨by decide, by decide⟩ hl.1 rfl (Nat.le_of_ble_eq_true rfl) dX8_isText_12 ⟨Nat.le_refl 0, Nat.le_refl 0, Nat.le_refl _, Nat.le_refl _⟩ ?_
  obtain ⟨hb, hs⟩ := ck_e hs
  obtain rfl := Option.some.inj hs
  exact M_zret C hI hb dX8_isText_15

def sX8_tier (x1 : Int32) (x2 : Int32) (x3 : Int32) (I : Nat → Int32) (J : Nat → Int64) (A : Nat → Nat → Int32) (B : Nat → Nat → Int64) : Option ((Int32) × (Nat → Int32) × (Nat → Nat → Int32)) :=
(sX8_in x1 (0 : Int32) (5 : Int32)).bind fun r_3 =>
if r_3 = 0 then
((sX8_refuses (-1 : Int32) I J A B).bind fun (r_39, I) =>
some (r_39, I, A))
else
(sX8_in x2 (0 : Int32) (1 : Int32)).bind fun r_12 =>
if r_12 = 0 then
((sX8_refuses (-1 : Int32) I J A B).bind fun (r_39, I) =>
some (r_39, I, A))
else
gv (if x2 = 0 then (20 : Int32) else (100000 : Int32)) fun v_31 =>
(sX8_in x3 (0 : Int32) v_31).bind fun r_31 =>
if r_31 = 0 then
((sX8_refuses (-1 : Int32) I J A B).bind fun (r_39, I) =>
some (r_39, I, A))
else
gv (if x2 = 0 then (144 : Int32) else (150 : Int32)) fun v_56 =>
gv (v_56 + x1) fun x4_58 =>
ck (inB x4_58 8047) <|
gv (A 1 (ix x4_58)) fun x5_67 =>
ck (inB x4_58 8047) <|
gv (va_up A 1 (upd (A 1) (ix x4_58) x3)) fun A =>
(sX8_good x5_67 I J A B).bind fun (r_80, I) =>
some (r_80, I, A)
set_option maxRecDepth 100000 in
set_option maxHeartbeats 8000000 in
theorem kX8_tier (l : Launch) (D : va_G) (cy : Nat → ClassId) (q : Nat → Nat) (x1 : Int32) (x2 : Int32) (x3 : Int32) (I : Nat → Int32) (J : Nat → Int64) (A : Nat → Nat → Int32) (B : Nat → Nat → Int64) (r : Int32) (I2 : Nat → Int32) (A2 : Nat → Nat → Int32) (hs : sX8_tier x1 x2 x3 I J A B = some (r, I2, A2)) : McI l yX8_tier cX8_tier 6 (some .int) 1 [.ref (q 46), .int x1, .int x2, .int x3] D cy q I J A B (some (.int r)) I2 J A2 B := by
  refine M_start rfl rfl (Nat.le_of_ble_eq_true rfl) ?_
  intro p e s m args below meth c H locs C hI ls hl
  have hl : lv_has ls 6 [(0, .ref (q 46)), (1, .int x1), (2, .int x2), (3, .int x3)] := hl
  rw [sX8_tier] at hs
  refine lv_iload_n C.1 C.2.1 dX8_tier_0 rfl (lv_at hl 1 rfl) ?_
  refine lv_iconst (v := 0) C.1 C.2.1 dX8_tier_1 (by decide) ?_
  refine lv_iconst (v := 5) C.1 C.2.1 dX8_tier_2 (by decide) ?_
  obtain ⟨r_3, hc, hs⟩ := bd_e hs
  refine S_call (h := 1) C (kX8_in l _ _ _ _ hc) ml_X8_83 st_X8_in ini_X8 co_X8_in hyX8_in rfl ⟨by decide, by decide⟩ hl.1 rfl (Nat.le_of_ble_eq_true rfl) dX8_tier_3 ⟨Nat.le_refl 0, Nat.le_refl 0, Nat.le_refl _, Nat.le_refl _⟩ ?_
  refine lv_if_eq (tgt := 37) C.1 C.2.1 dX8_tier_6 (by decide) (fun cn => ?_) (fun cn => ?_)
  · have hs := if_t cn hs
    refine lv_aload_n C.1 C.2.1 dX8_tier_37 rfl (lv_at hl 0 rfl) ?_
    refine lv_iconst (v := -1) C.1 C.2.1 dX8_tier_38 (by decide) ?_
    obtain ⟨⟨r_39, I⟩, hc, hs⟩ := bd_e hs
    refine M_call C hI (kX8_refuses l D cy q _ _ _ _ _ _ _ hc) ml_X8_87 im_X8_refuses se_X8_refuses ini_X8 co_X8_refuses hyX8_refuses rfl ⟨by decide, by decide⟩ hl.1 rfl (Nat.le_of_ble_eq_true rfl) dX8_tier_39 (fun H locs hI => ?_)
    obtain ⟨rfl, rfl, rfl⟩ := so3 hs
    exact M_iret C hI dX8_tier_42
  · have hs := if_f cn hs
    refine lv_iload_n C.1 C.2.1 dX8_tier_9 rfl (lv_at hl 2 rfl) ?_
    refine lv_iconst (v := 0) C.1 C.2.1 dX8_tier_10 (by decide) ?_
    refine lv_iconst (v := 1) C.1 C.2.1 dX8_tier_11 (by decide) ?_
    obtain ⟨r_12, hc, hs⟩ := bd_e hs
    refine S_call (h := 1) C (kX8_in l _ _ _ _ hc) ml_X8_83 st_X8_in ini_X8 co_X8_in hyX8_in rfl ⟨by decide, by decide⟩ hl.1 rfl (Nat.le_of_ble_eq_true rfl) dX8_tier_12 ⟨Nat.le_refl 0, Nat.le_refl 0, Nat.le_refl _, Nat.le_refl _⟩ ?_
    refine lv_if_eq (tgt := 37) C.1 C.2.1 dX8_tier_15 (by decide) (fun cn => ?_) (fun cn => ?_)
    · have hs := if_t cn hs
      refine lv_aload_n C.1 C.2.1 dX8_tier_37 rfl (lv_at hl 0 rfl) ?_
      refine lv_iconst (v := -1) C.1 C.2.1 dX8_tier_38 (by decide) ?_
      obtain ⟨⟨r_39, I⟩, hc, hs⟩ := bd_e hs
      refine M_call C hI (kX8_refuses l D cy q _ _ _ _ _ _ _ hc) ml_X8_87 im_X8_refuses se_X8_refuses ini_X8 co_X8_refuses hyX8_refuses rfl ⟨by decide, by decide⟩ hl.1 rfl (Nat.le_of_ble_eq_true rfl) dX8_tier_39 (fun H locs hI => ?_)
      obtain ⟨rfl, rfl, rfl⟩ := so3 hs
      exact M_iret C hI dX8_tier_42
    · have hs := if_f cn hs
      refine lv_iload_n C.1 C.2.1 dX8_tier_18 rfl (lv_at hl 3 rfl) ?_
      refine lv_iconst (v := 0) C.1 C.2.1 dX8_tier_19 (by decide) ?_
      refine lv_iload_n C.1 C.2.1 dX8_tier_20 rfl (lv_at hl 2 rfl) ?_
      obtain ⟨v_31, ev_31, hs⟩ := gv_ex hs
      have KP_31 : W p l e (rmL 1) s m args below meth c H locs 0 0 (MQ below (mQ D cy q (some (.int r)) I2 J A2 B) args s 0 0 (MA q)) (F0 m 31 ls [.int v_31, .int (0 : Int32), .int x3]) := by
        obtain ⟨r_31, hc, hs⟩ := bd_e hs
        refine S_call (h := 1) C (kX8_in l _ _ _ _ hc) ml_X8_83 st_X8_in ini_X8 co_X8_in hyX8_in rfl ⟨by decide, by decide⟩ hl.1 rfl (Nat.le_of_ble_eq_true rfl) dX8_tier_31 ⟨Nat.le_refl 0, Nat.le_refl 0, Nat.le_refl _, Nat.le_refl _⟩ ?_
        refine lv_if_ne (tgt := 43) C.1 C.2.1 dX8_tier_34 (by decide) (fun cn => ?_) (fun cn => ?_)
        · have hs := if_f cn hs
          refine lv_iload_n C.1 C.2.1 dX8_tier_43 rfl (lv_at hl 2 rfl) ?_
          obtain ⟨v_56, ev_56, hs⟩ := gv_ex hs
          have KP_56 : W p l e (rmL 1) s m args below meth c H locs 0 0 (MQ below (mQ D cy q (some (.int r)) I2 J A2 B) args s 0 0 (MA q)) (F0 m 56 ls [.int v_56]) := by
            refine lv_iload_n C.1 C.2.1 dX8_tier_56 rfl (lv_at hl 1 rfl) ?_
            refine lv_iadd C.1 C.2.1 dX8_tier_57 ?_
            refine lv_topi (fun x4_58 ex4_58 => ?_)
            have hs := gv_at ex4_58 hs
            refine lv_istore (lv' := [(4, .int x4_58), (0, .ref (q 46)), (1, .int x1), (2, .int x2), (3, .int x3)]) C.1 C.2.1 dX8_tier_58 hl (by decide) rfl (fun ls hl => ?_)
            refine lv_aload_n C.1 C.2.1 dX8_tier_60 rfl (lv_at hl 1 rfl) ?_
            refine mg_1 C hI dX8_tier_61 ?_
            refine lv_iload C.1 C.2.1 dX8_tier_64 (lv_at hl 0 rfl) ?_
            obtain ⟨hk, hs⟩ := ck_e hs
            refine ma_1 C hI hk dX8_tier_66 ?_
            refine lv_topi (fun x5_67 ex5_67 => ?_)
            have hs := gv_at ex5_67 hs
            refine lv_istore (lv' := [(5, .int x5_67), (4, .int x4_58), (0, .ref (q 46)), (1, .int x1), (2, .int x2), (3, .int x3)]) C.1 C.2.1 dX8_tier_67 hl (by decide) rfl (fun ls hl => ?_)
            refine lv_aload_n C.1 C.2.1 dX8_tier_69 rfl (lv_at hl 2 rfl) ?_
            refine mg_1 C hI dX8_tier_70 ?_
            refine lv_iload C.1 C.2.1 dX8_tier_73 (lv_at hl 1 rfl) ?_
            refine lv_iload_n C.1 C.2.1 dX8_tier_75 rfl (lv_at hl 5 rfl) ?_
            obtain ⟨hk, hs⟩ := ck_e hs
            refine ms_1 C hI hk dX8_tier_76 (fun H locs hI => ?_)
            have hs := gv_be hs
            refine lv_aload_n C.1 C.2.1 dX8_tier_77 rfl (lv_at hl 2 rfl) ?_
            refine lv_iload C.1 C.2.1 dX8_tier_78 (lv_at hl 0 rfl) ?_
            obtain ⟨⟨r_80, I⟩, hc, hs⟩ := bd_e hs
            refine M_call C hI (kX8_good l D cy q _ _ _ _ _ _ _ hc) ml_X8_91 im_X8_good se_X8_good ini_X8 co_X8_good hyX8_good rfl ⟨by decide, by decide⟩ hl.1 rfl (Nat.le_of_ble_eq_true rfl) dX8_tier_80 (fun H locs hI => ?_)
            obtain ⟨rfl, rfl, rfl⟩ := so3 hs
            exact M_iret C hI dX8_tier_83
          refine lv_if_ne (tgt := 53) C.1 C.2.1 dX8_tier_44 (by decide) (fun cn => ?_) (fun cn => ?_)
          · have ev_56 := if_f' cn ev_56
            refine lv_sipush (v := 150) C.1 C.2.1 dX8_tier_53 (by decide) ?_
            subst ev_56
            exact KP_56
          · have ev_56 := if_t' cn ev_56
            refine lv_sipush (v := 144) C.1 C.2.1 dX8_tier_47 (by decide) ?_
            refine lv_goto (tgt := 56) C.1 C.2.1 dX8_tier_50 (by decide) ?_
            subst ev_56
            exact KP_56
        · have hs := if_t cn hs
          refine lv_aload_n C.1 C.2.1 dX8_tier_37 rfl (lv_at hl 0 rfl) ?_
          refine lv_iconst (v := -1) C.1 C.2.1 dX8_tier_38 (by decide) ?_
          obtain ⟨⟨r_39, I⟩, hc, hs⟩ := bd_e hs
          refine M_call C hI (kX8_refuses l D cy q _ _ _ _ _ _ _ hc) ml_X8_87 im_X8_refuses se_X8_refuses ini_X8 co_X8_refuses hyX8_refuses rfl ⟨by decide, by decide⟩ hl.1 rfl (Nat.le_of_ble_eq_true rfl) dX8_tier_39 (fun H locs hI => ?_)
          obtain ⟨rfl, rfl, rfl⟩ := so3 hs
          exact M_iret C hI dX8_tier_42
      refine lv_if_ne (tgt := 29) C.1 C.2.1 dX8_tier_21 (by decide) (fun cn => ?_) (fun cn => ?_)
      · have ev_31 := if_f' cn ev_31
        refine lv_ldc C.1 C.2.1 C.2.2.2.1 (C.2.2.2.2.1 _ kc_X8_98) dX8_tier_29 ?_
        subst ev_31
        exact KP_31
      · have ev_31 := if_t' cn ev_31
        refine lv_bipush (v := 20) C.1 C.2.1 dX8_tier_24 (by decide) ?_
        refine lv_goto (tgt := 31) C.1 C.2.1 dX8_tier_26 (by decide) ?_
        subst ev_31
        exact KP_31

def sX8_terms (x1 : Int32) (x2 : Int32) (I : Nat → Int32) (J : Nat → Int64) (A : Nat → Nat → Int32) (B : Nat → Nat → Int64) : Option ((Int32) × (Nat → Int32) × (Nat → Nat → Int32)) :=
(sX8_in x1 (0 : Int32) (8 : Int32)).bind fun r_4 =>
if r_4 = 0 then
((sX8_refuses (-1 : Int32) I J A B).bind fun (r_12, I) =>
some (r_12, I, A))
else
gv (fun (y0_j32 : Int32) (I : Nat → Int32) (A : Nat → Nat → Int32) =>
gv (if (2 : Int32) ≤ x1 then (if x1 = (2 : Int32) then (100 : Int32) else (if x1 = (5 : Int32) then (100 : Int32) else (if x1 = (3 : Int32) then (10 : Int32) else (if x1 = (4 : Int32) then (50 : Int32) else (if x1 = (8 : Int32) then (40 : Int32) else (1000 : Int32)))))) else (100000 : Int32)) fun v_92 =>
(sX8_in x2 y0_j32 v_92).bind fun r_98 =>
if r_98 = 0 then
((sX8_refuses (-1 : Int32) I J A B).bind fun (r_106, I) =>
some (r_106, I, A))
else
gv (fun (I : Nat → Int32) (A : Nat → Nat → Int32) =>
gv (fun (I : Nat → Int32) (A : Nat → Nat → Int32) =>
(sX8_term x1 I J A B).bind fun r_146 =>
ck (inB ((156 : Int32) + x1) 8047) <|
gv (va_up A 1 (upd (A 1) (ix ((156 : Int32) + x1)) x2)) fun A =>
(sX8_good r_146 I J A B).bind fun (r_165, I) =>
some (r_165, I, A)) fun k_144 =>
if x1 = (1 : Int32) then
((sX8_term (0 : Int32) I J A B).bind fun r_131 =>
if x2 ≤ r_131 then
(k_144 I A)
else
(sX8_refuses (-3 : Int32) I J A B).bind fun (r_140, I) =>
some (r_140, I, A))
else
k_144 I A) fun k_123 =>
if x1 = 0 then
((sX8_term (1 : Int32) I J A B).bind fun r_117 =>
if x2 < r_117 then
((sX8_refuses (-3 : Int32) I J A B).bind fun (r_140, I) =>
some (r_140, I, A))
else
k_123 I A)
else
k_123 I A) fun k_32 =>
gv (fun (I : Nat → Int32) (A : Nat → Nat → Int32) =>
k_32 (1 : Int32) I A) fun k_27 =>
if x1 < (2 : Int32) then
(k_27 I A)
else
if x1 = (8 : Int32) then
(k_27 I A)
else
k_32 (0 : Int32) I A
set_option maxRecDepth 100000 in
set_option maxHeartbeats 8000000 in
theorem kX8_terms (l : Launch) (D : va_G) (cy : Nat → ClassId) (q : Nat → Nat) (x1 : Int32) (x2 : Int32) (I : Nat → Int32) (J : Nat → Int64) (A : Nat → Nat → Int32) (B : Nat → Nat → Int64) (r : Int32) (I2 : Nat → Int32) (A2 : Nat → Nat → Int32) (hs : sX8_terms x1 x2 I J A B = some (r, I2, A2)) : McI l yX8_terms cX8_terms 6 (some .int) 1 [.ref (q 46), .int x1, .int x2] D cy q I J A B (some (.int r)) I2 J A2 B := by
  refine M_start rfl rfl (Nat.le_of_ble_eq_true rfl) ?_
  intro p e s m args below meth c H locs C hI ls hl
  have hl : lv_has ls 6 [(0, .ref (q 46)), (1, .int x1), (2, .int x2)] := hl
  rw [sX8_terms] at hs
  refine lv_iload_n C.1 C.2.1 dX8_terms_0 rfl (lv_at hl 1 rfl) ?_
  refine lv_iconst (v := 0) C.1 C.2.1 dX8_terms_1 (by decide) ?_
  refine lv_bipush (v := 8) C.1 C.2.1 dX8_terms_2 (by decide) ?_
  obtain ⟨r_4, hc, hs⟩ := bd_e hs
  refine S_call (h := 1) C (kX8_in l _ _ _ _ hc) ml_X8_83 st_X8_in ini_X8 co_X8_in hyX8_in rfl ⟨by decide, by decide⟩ hl.1 rfl (Nat.le_of_ble_eq_true rfl) dX8_terms_4 ⟨Nat.le_refl 0, Nat.le_refl 0, Nat.le_refl _, Nat.le_refl _⟩ ?_
  refine lv_if_ne (tgt := 16) C.1 C.2.1 dX8_terms_7 (by decide) (fun cn => ?_) (fun cn => ?_)
  · have hs := if_f cn hs
    refine lv_iload_n C.1 C.2.1 dX8_terms_16 rfl (lv_at hl 1 rfl) ?_
    refine lv_iconst (v := 2) C.1 C.2.1 dX8_terms_17 (by decide) ?_
    obtain ⟨k_32, ek_32, hs⟩ := gv_ex hs
    have KJ_32 : ∀ (y0_j32 : Int32) (I : Nat → Int32) (A : Nat → Nat → Int32) (H : Heap) (locs : List Loc) (ls : Array Slot), k_32 y0_j32 I A = some (r, I2, A2) → MI D cy s s.heap H locs q I J A B → lv_has ls 6 [(0, .ref (q 46)), (1, .int x1), (2, .int x2)] → W p l e (rmL 1) s m args below meth c H locs 0 0 (MQ below (mQ D cy q (some (.int r)) I2 J A2 B) args s 0 0 (MA q)) (F0 m 32 ls [.int y0_j32]) := by
      intro y0_j32 I A H locs ls hs hI hl
      rw [ek_32] at hs
      refine lv_istore_n (lv' := [(3, .int y0_j32), (0, .ref (q 46)), (1, .int x1), (2, .int x2)]) C.1 C.2.1 dX8_terms_32 rfl hl (by decide) rfl (fun ls hl => ?_)
      refine lv_iload_n C.1 C.2.1 dX8_terms_33 rfl (lv_at hl 2 rfl) ?_
      refine lv_iconst (v := 2) C.1 C.2.1 dX8_terms_34 (by decide) ?_
      obtain ⟨v_92, ev_92, hs⟩ := gv_ex hs
      have KP_92 : W p l e (rmL 1) s m args below meth c H locs 0 0 (MQ below (mQ D cy q (some (.int r)) I2 J A2 B) args s 0 0 (MA q)) (F0 m 92 ls [.int v_92]) := by
        refine lv_istore (lv' := [(4, .int v_92), (3, .int y0_j32), (0, .ref (q 46)), (1, .int x1), (2, .int x2)]) C.1 C.2.1 dX8_terms_92 hl (by decide) rfl (fun ls hl => ?_)
        refine lv_iload_n C.1 C.2.1 dX8_terms_94 rfl (lv_at hl 4 rfl) ?_
        refine lv_iload_n C.1 C.2.1 dX8_terms_95 rfl (lv_at hl 1 rfl) ?_
        refine lv_iload C.1 C.2.1 dX8_terms_96 (lv_at hl 0 rfl) ?_
        obtain ⟨r_98, hc, hs⟩ := bd_e hs
        refine S_call (h := 1) C (kX8_in l _ _ _ _ hc) ml_X8_83 st_X8_in ini_X8 co_X8_in hyX8_in rfl ⟨by decide, by decide⟩ hl.1 rfl (Nat.le_of_ble_eq_true rfl) dX8_terms_98 ⟨Nat.le_refl 0, Nat.le_refl 0, Nat.le_refl _, Nat.le_refl _⟩ ?_
        refine lv_if_ne (tgt := 110) C.1 C.2.1 dX8_terms_101 (by decide) (fun cn => ?_) (fun cn => ?_)
        · have hs := if_f cn hs
          refine lv_iload_n C.1 C.2.1 dX8_terms_110 rfl (lv_at hl 3 rfl) ?_
          obtain ⟨k_123, ek_123, hs⟩ := gv_ex hs
          have KJ_123 : ∀ (I : Nat → Int32) (A : Nat → Nat → Int32) (H : Heap) (locs : List Loc) (ls : Array Slot), k_123 I A = some (r, I2, A2) → MI D cy s s.heap H locs q I J A B → lv_has ls 6 [(0, .ref (q 46)), (1, .int x1), (2, .int x2)] → W p l e (rmL 1) s m args below meth c H locs 0 0 (MQ below (mQ D cy q (some (.int r)) I2 J A2 B) args s 0 0 (MA q)) (F0 m 123 ls []) := by
            intro I A H locs ls hs hI hl
            rw [ek_123] at hs
            refine lv_iload_n C.1 C.2.1 dX8_terms_123 rfl (lv_at hl 1 rfl) ?_
            refine lv_iconst (v := 1) C.1 C.2.1 dX8_terms_124 (by decide) ?_
            obtain ⟨k_144, ek_144, hs⟩ := gv_ex hs
            have KJ_144 : ∀ (I : Nat → Int32) (A : Nat → Nat → Int32) (H : Heap) (locs : List Loc) (ls : Array Slot), k_144 I A = some (r, I2, A2) → MI D cy s s.heap H locs q I J A B → lv_has ls 6 [(0, .ref (q 46)), (1, .int x1), (2, .int x2)] → W p l e (rmL 1) s m args below meth c H locs 0 0 (MQ below (mQ D cy q (some (.int r)) I2 J A2 B) args s 0 0 (MA q)) (F0 m 144 ls []) := by
              intro I A H locs ls hs hI hl
              rw [ek_144] at hs
              refine lv_aload_n C.1 C.2.1 dX8_terms_144 rfl (lv_at hl 0 rfl) ?_
              refine lv_iload_n C.1 C.2.1 dX8_terms_145 rfl (lv_at hl 1 rfl) ?_
              obtain ⟨r_146, hc, hs⟩ := bd_e hs
              refine M_call C hI (kX8_term l D cy q _ _ _ _ _ _ hc) ml_X8_99 im_X8_term se_X8_term ini_X8 co_X8_term hyX8_term rfl ⟨by decide, by decide⟩ hl.1 rfl (Nat.le_of_ble_eq_true rfl) dX8_terms_146 (fun H locs hI => ?_)
              refine lv_istore (lv' := [(5, .int r_146), (0, .ref (q 46)), (1, .int x1), (2, .int x2)]) C.1 C.2.1 dX8_terms_149 hl (by decide) rfl (fun ls hl => ?_)
              refine lv_aload_n C.1 C.2.1 dX8_terms_151 rfl (lv_at hl 1 rfl) ?_
              refine mg_1 C hI dX8_terms_152 ?_
              refine lv_sipush (v := 156) C.1 C.2.1 dX8_terms_155 (by decide) ?_
              refine lv_iload_n C.1 C.2.1 dX8_terms_158 rfl (lv_at hl 2 rfl) ?_
              refine lv_iadd C.1 C.2.1 dX8_terms_159 ?_
              refine lv_iload_n C.1 C.2.1 dX8_terms_160 rfl (lv_at hl 3 rfl) ?_
              obtain ⟨hk, hs⟩ := ck_e hs
              refine ms_1 C hI hk dX8_terms_161 (fun H locs hI => ?_)
              have hs := gv_be hs
              refine lv_aload_n C.1 C.2.1 dX8_terms_162 rfl (lv_at hl 1 rfl) ?_
              refine lv_iload C.1 C.2.1 dX8_terms_163 (lv_at hl 0 rfl) ?_
              obtain ⟨⟨r_165, I⟩, hc, hs⟩ := bd_e hs
              refine M_call C hI (kX8_good l D cy q _ _ _ _ _ _ _ hc) ml_X8_91 im_X8_good se_X8_good ini_X8 co_X8_good hyX8_good rfl ⟨by decide, by decide⟩ hl.1 rfl (Nat.le_of_ble_eq_true rfl) dX8_terms_165 (fun H locs hI => ?_)
              obtain ⟨rfl, rfl, rfl⟩ := so3 hs
              exact M_iret C hI dX8_terms_168
            refine lv_icmp_ne (tgt := 144) C.1 C.2.1 dX8_terms_125 (by decide) (fun cn => ?_) (fun cn => ?_)
            · have hs := if_f cn hs
              exact KJ_144 _ _ _ _ _ hs hI (lv_sub hl [0, 1, 2] rfl)
            · have hs := if_t cn hs
              refine lv_iload_n C.1 C.2.1 dX8_terms_128 rfl (lv_at hl 2 rfl) ?_
              refine lv_aload_n C.1 C.2.1 dX8_terms_129 rfl (lv_at hl 0 rfl) ?_
              refine lv_iconst (v := 0) C.1 C.2.1 dX8_terms_130 (by decide) ?_
              obtain ⟨r_131, hc, hs⟩ := bd_e hs
              refine M_call C hI (kX8_term l D cy q _ _ _ _ _ _ hc) ml_X8_99 im_X8_term se_X8_term ini_X8 co_X8_term hyX8_term rfl ⟨by decide, by decide⟩ hl.1 rfl (Nat.le_of_ble_eq_true rfl) dX8_terms_131 (fun H locs hI => ?_)
              refine lv_icmp_le (tgt := 144) C.1 C.2.1 dX8_terms_134 (by decide) (fun cn => ?_) (fun cn => ?_)
              · have hs := if_t cn hs
                exact KJ_144 _ _ _ _ _ hs hI (lv_sub hl [0, 1, 2] rfl)
              · have hs := if_f cn hs
                refine lv_aload_n C.1 C.2.1 dX8_terms_137 rfl (lv_at hl 0 rfl) ?_
                refine lv_bipush (v := -3) C.1 C.2.1 dX8_terms_138 (by decide) ?_
                obtain ⟨⟨r_140, I⟩, hc, hs⟩ := bd_e hs
                refine M_call C hI (kX8_refuses l D cy q _ _ _ _ _ _ _ hc) ml_X8_87 im_X8_refuses se_X8_refuses ini_X8 co_X8_refuses hyX8_refuses rfl ⟨by decide, by decide⟩ hl.1 rfl (Nat.le_of_ble_eq_true rfl) dX8_terms_140 (fun H locs hI => ?_)
                obtain ⟨rfl, rfl, rfl⟩ := so3 hs
                exact M_iret C hI dX8_terms_143
          refine lv_if_ne (tgt := 123) C.1 C.2.1 dX8_terms_111 (by decide) (fun cn => ?_) (fun cn => ?_)
          · have hs := if_f cn hs
            exact KJ_123 _ _ _ _ _ hs hI (lv_sub hl [2, 3, 4] rfl)
          · have hs := if_t cn hs
            refine lv_iload_n C.1 C.2.1 dX8_terms_114 rfl (lv_at hl 4 rfl) ?_
            refine lv_aload_n C.1 C.2.1 dX8_terms_115 rfl (lv_at hl 2 rfl) ?_
            refine lv_iconst (v := 1) C.1 C.2.1 dX8_terms_116 (by decide) ?_
            obtain ⟨r_117, hc, hs⟩ := bd_e hs
            refine M_call C hI (kX8_term l D cy q _ _ _ _ _ _ hc) ml_X8_99 im_X8_term se_X8_term ini_X8 co_X8_term hyX8_term rfl ⟨by decide, by decide⟩ hl.1 rfl (Nat.le_of_ble_eq_true rfl) dX8_terms_117 (fun H locs hI => ?_)
            refine lv_icmp_lt (tgt := 137) C.1 C.2.1 dX8_terms_120 (by decide) (fun cn => ?_) (fun cn => ?_)
            · have hs := if_t cn hs
              refine lv_aload_n C.1 C.2.1 dX8_terms_137 rfl (lv_at hl 2 rfl) ?_
              refine lv_bipush (v := -3) C.1 C.2.1 dX8_terms_138 (by decide) ?_
              obtain ⟨⟨r_140, I⟩, hc, hs⟩ := bd_e hs
              refine M_call C hI (kX8_refuses l D cy q _ _ _ _ _ _ _ hc) ml_X8_87 im_X8_refuses se_X8_refuses ini_X8 co_X8_refuses hyX8_refuses rfl ⟨by decide, by decide⟩ hl.1 rfl (Nat.le_of_ble_eq_true rfl) dX8_terms_140 (fun H locs hI => ?_)
              obtain ⟨rfl, rfl, rfl⟩ := so3 hs
              exact M_iret C hI dX8_terms_143
            · have hs := if_f cn hs
              exact KJ_123 _ _ _ _ _ hs hI (lv_sub hl [2, 3, 4] rfl)
        · have hs := if_t cn hs
          refine lv_aload_n C.1 C.2.1 dX8_terms_104 rfl (lv_at hl 2 rfl) ?_
          refine lv_iconst (v := -1) C.1 C.2.1 dX8_terms_105 (by decide) ?_
          obtain ⟨⟨r_106, I⟩, hc, hs⟩ := bd_e hs
          refine M_call C hI (kX8_refuses l D cy q _ _ _ _ _ _ _ hc) ml_X8_87 im_X8_refuses se_X8_refuses ini_X8 co_X8_refuses hyX8_refuses rfl ⟨by decide, by decide⟩ hl.1 rfl (Nat.le_of_ble_eq_true rfl) dX8_terms_106 (fun H locs hI => ?_)
          obtain ⟨rfl, rfl, rfl⟩ := so3 hs
          exact M_iret C hI dX8_terms_109
      refine lv_icmp_ge (tgt := 43) C.1 C.2.1 dX8_terms_35 (by decide) (fun cn => ?_) (fun cn => ?_)
      · have ev_92 := if_t' cn ev_92
        refine lv_iload_n C.1 C.2.1 dX8_terms_43 rfl (lv_at hl 2 rfl) ?_
        refine lv_iconst (v := 2) C.1 C.2.1 dX8_terms_44 (by decide) ?_
        refine lv_icmp_eq (tgt := 53) C.1 C.2.1 dX8_terms_45 (by decide) (fun cn => ?_) (fun cn => ?_)
        · have ev_92 := if_t' cn ev_92
          refine lv_bipush (v := 100) C.1 C.2.1 dX8_terms_53 (by decide) ?_
          refine lv_goto (tgt := 92) C.1 C.2.1 dX8_terms_55 (by decide) ?_
          subst ev_92
          exact KP_92
        · have ev_92 := if_f' cn ev_92
          refine lv_iload_n C.1 C.2.1 dX8_terms_48 rfl (lv_at hl 2 rfl) ?_
          refine lv_iconst (v := 5) C.1 C.2.1 dX8_terms_49 (by decide) ?_
          refine lv_icmp_ne (tgt := 58) C.1 C.2.1 dX8_terms_50 (by decide) (fun cn => ?_) (fun cn => ?_)
          · have ev_92 := if_f' cn ev_92
            refine lv_iload_n C.1 C.2.1 dX8_terms_58 rfl (lv_at hl 2 rfl) ?_
            refine lv_iconst (v := 3) C.1 C.2.1 dX8_terms_59 (by decide) ?_
            refine lv_icmp_ne (tgt := 68) C.1 C.2.1 dX8_terms_60 (by decide) (fun cn => ?_) (fun cn => ?_)
            · have ev_92 := if_f' cn ev_92
              refine lv_iload_n C.1 C.2.1 dX8_terms_68 rfl (lv_at hl 2 rfl) ?_
              refine lv_iconst (v := 4) C.1 C.2.1 dX8_terms_69 (by decide) ?_
              refine lv_icmp_ne (tgt := 78) C.1 C.2.1 dX8_terms_70 (by decide) (fun cn => ?_) (fun cn => ?_)
              · have ev_92 := if_f' cn ev_92
                refine lv_iload_n C.1 C.2.1 dX8_terms_78 rfl (lv_at hl 2 rfl) ?_
                refine lv_bipush (v := 8) C.1 C.2.1 dX8_terms_79 (by decide) ?_
                refine lv_icmp_ne (tgt := 89) C.1 C.2.1 dX8_terms_81 (by decide) (fun cn => ?_) (fun cn => ?_)
                · have ev_92 := if_f' cn ev_92
                  refine lv_sipush (v := 1000) C.1 C.2.1 dX8_terms_89 (by decide) ?_
                  subst ev_92
                  exact KP_92
                · have ev_92 := if_t' cn ev_92
                  refine lv_bipush (v := 40) C.1 C.2.1 dX8_terms_84 (by decide) ?_
                  refine lv_goto (tgt := 92) C.1 C.2.1 dX8_terms_86 (by decide) ?_
                  subst ev_92
                  exact KP_92
              · have ev_92 := if_t' cn ev_92
                refine lv_bipush (v := 50) C.1 C.2.1 dX8_terms_73 (by decide) ?_
                refine lv_goto (tgt := 92) C.1 C.2.1 dX8_terms_75 (by decide) ?_
                subst ev_92
                exact KP_92
            · have ev_92 := if_t' cn ev_92
              refine lv_bipush (v := 10) C.1 C.2.1 dX8_terms_63 (by decide) ?_
              refine lv_goto (tgt := 92) C.1 C.2.1 dX8_terms_65 (by decide) ?_
              subst ev_92
              exact KP_92
          · have ev_92 := if_t' cn ev_92
            refine lv_bipush (v := 100) C.1 C.2.1 dX8_terms_53 (by decide) ?_
            refine lv_goto (tgt := 92) C.1 C.2.1 dX8_terms_55 (by decide) ?_
            subst ev_92
            exact KP_92
      · have ev_92 := if_f' cn ev_92
        refine lv_ldc C.1 C.2.1 C.2.2.2.1 (C.2.2.2.2.1 _ kc_X8_98) dX8_terms_38 ?_
        refine lv_goto (tgt := 92) C.1 C.2.1 dX8_terms_40 (by decide) ?_
        subst ev_92
        exact KP_92
    obtain ⟨k_27, ek_27, hs⟩ := gv_ex hs
    have KJ_27 : ∀ (I : Nat → Int32) (A : Nat → Nat → Int32) (H : Heap) (locs : List Loc) (ls : Array Slot), k_27 I A = some (r, I2, A2) → MI D cy s s.heap H locs q I J A B → lv_has ls 6 [(0, .ref (q 46)), (1, .int x1), (2, .int x2)] → W p l e (rmL 1) s m args below meth c H locs 0 0 (MQ below (mQ D cy q (some (.int r)) I2 J A2 B) args s 0 0 (MA q)) (F0 m 27 ls []) := by
      intro I A H locs ls hs hI hl
      rw [ek_27] at hs
      refine lv_iconst (v := 1) C.1 C.2.1 dX8_terms_27 (by decide) ?_
      refine lv_goto (tgt := 32) C.1 C.2.1 dX8_terms_28 (by decide) ?_
      exact KJ_32 _ _ _ _ _ _ hs hI (lv_sub hl [0, 1, 2] rfl)
    refine lv_icmp_lt (tgt := 27) C.1 C.2.1 dX8_terms_18 (by decide) (fun cn => ?_) (fun cn => ?_)
    · have hs := if_t cn hs
      exact KJ_27 _ _ _ _ _ hs hI (lv_sub hl [0, 1, 2] rfl)
    · have hs := if_f cn hs
      refine lv_iload_n C.1 C.2.1 dX8_terms_21 rfl (lv_at hl 1 rfl) ?_
      refine lv_bipush (v := 8) C.1 C.2.1 dX8_terms_22 (by decide) ?_
      refine lv_icmp_ne (tgt := 31) C.1 C.2.1 dX8_terms_24 (by decide) (fun cn => ?_) (fun cn => ?_)
      · have hs := if_f cn hs
        refine lv_iconst (v := 0) C.1 C.2.1 dX8_terms_31 (by decide) ?_
        exact KJ_32 _ _ _ _ _ _ hs hI (lv_sub hl [0, 1, 2] rfl)
      · have hs := if_t cn hs
        exact KJ_27 _ _ _ _ _ hs hI (lv_sub hl [0, 1, 2] rfl)
  · have hs := if_t cn hs
    refine lv_aload_n C.1 C.2.1 dX8_terms_10 rfl (lv_at hl 0 rfl) ?_
    refine lv_iconst (v := -1) C.1 C.2.1 dX8_terms_11 (by decide) ?_
    obtain ⟨⟨r_12, I⟩, hc, hs⟩ := bd_e hs
    refine M_call C hI (kX8_refuses l D cy q _ _ _ _ _ _ _ hc) ml_X8_87 im_X8_refuses se_X8_refuses ini_X8 co_X8_refuses hyX8_refuses rfl ⟨by decide, by decide⟩ hl.1 rfl (Nat.le_of_ble_eq_true rfl) dX8_terms_12 (fun H locs hI => ?_)
    obtain ⟨rfl, rfl, rfl⟩ := so3 hs
    exact M_iret C hI dX8_terms_15

def sX8_wind (x1 : Int32) (x2 : Int32) (x3 : Int32) (I : Nat → Int32) (J : Nat → Int64) (A : Nat → Nat → Int32) (B : Nat → Nat → Int64) : Option ((Int32) × (Nat → Int32) × (Nat → Nat → Int32)) :=
(sX8_in x1 (0 : Int32) (7 : Int32)).bind fun r_4 =>
if r_4 = 0 then
((sX8_refuses (-1 : Int32) I J A B).bind fun (r_32, I) =>
some (r_32, I, A))
else
(sX8_in x2 (1 : Int32) (100 : Int32)).bind fun r_14 =>
if r_14 = 0 then
((sX8_refuses (-1 : Int32) I J A B).bind fun (r_32, I) =>
some (r_32, I, A))
else
(sX8_in x3 (1 : Int32) (1000000 : Int32)).bind fun r_24 =>
if r_24 = 0 then
((sX8_refuses (-1 : Int32) I J A B).bind fun (r_32, I) =>
some (r_32, I, A))
else
gv (A 1 (ix (1633 : Int32))) fun x4_44 =>
if x4_44 = (16 : Int32) then
((sX8_refuses (-5 : Int32) I J A B).bind fun (r_56, I) =>
some (r_56, I, A))
else
ck (inB ((165 : Int32) + ((3 : Int32) * x4_44)) 8047) <|
gv (va_up A 1 (upd (A 1) (ix ((165 : Int32) + ((3 : Int32) * x4_44))) x1)) fun A =>
ck (inB (((165 : Int32) + ((3 : Int32) * x4_44)) + (1 : Int32)) 8047) <|
gv (va_up A 1 (upd (A 1) (ix (((165 : Int32) + ((3 : Int32) * x4_44)) + (1 : Int32))) x2)) fun A =>
ck (inB (((165 : Int32) + ((3 : Int32) * x4_44)) + (2 : Int32)) 8047) <|
gv (va_up A 1 (upd (A 1) (ix (((165 : Int32) + ((3 : Int32) * x4_44)) + (2 : Int32))) x3)) fun A =>
gv (va_up A 1 (upd (A 1) (ix (1633 : Int32)) ((A 1 (ix (1633 : Int32))) + (1 : Int32)))) fun A =>
(sX8_good x4_44 I J A B).bind fun (r_121, I) =>
some (r_121, I, A)
set_option maxRecDepth 100000 in
set_option maxHeartbeats 8000000 in
theorem kX8_wind (l : Launch) (D : va_G) (cy : Nat → ClassId) (q : Nat → Nat) (x1 : Int32) (x2 : Int32) (x3 : Int32) (I : Nat → Int32) (J : Nat → Int64) (A : Nat → Nat → Int32) (B : Nat → Nat → Int64) (r : Int32) (I2 : Nat → Int32) (A2 : Nat → Nat → Int32) (hs : sX8_wind x1 x2 x3 I J A B = some (r, I2, A2)) : McI l yX8_wind cX8_wind 5 (some .int) 1 [.ref (q 46), .int x1, .int x2, .int x3] D cy q I J A B (some (.int r)) I2 J A2 B := by
  refine M_start rfl rfl (Nat.le_of_ble_eq_true rfl) ?_
  intro p e s m args below meth c H locs C hI ls hl
  have hl : lv_has ls 5 [(0, .ref (q 46)), (1, .int x1), (2, .int x2), (3, .int x3)] := hl
  rw [sX8_wind] at hs
  refine lv_iload_n C.1 C.2.1 dX8_wind_0 rfl (lv_at hl 1 rfl) ?_
  refine lv_iconst (v := 0) C.1 C.2.1 dX8_wind_1 (by decide) ?_
  refine lv_bipush (v := 7) C.1 C.2.1 dX8_wind_2 (by decide) ?_
  obtain ⟨r_4, hc, hs⟩ := bd_e hs
  refine S_call (h := 1) C (kX8_in l _ _ _ _ hc) ml_X8_83 st_X8_in ini_X8 co_X8_in hyX8_in rfl ⟨by decide, by decide⟩ hl.1 rfl (Nat.le_of_ble_eq_true rfl) dX8_wind_4 ⟨Nat.le_refl 0, Nat.le_refl 0, Nat.le_refl _, Nat.le_refl _⟩ ?_
  refine lv_if_eq (tgt := 30) C.1 C.2.1 dX8_wind_7 (by decide) (fun cn => ?_) (fun cn => ?_)
  · have hs := if_t cn hs
    refine lv_aload_n C.1 C.2.1 dX8_wind_30 rfl (lv_at hl 0 rfl) ?_
    refine lv_iconst (v := -1) C.1 C.2.1 dX8_wind_31 (by decide) ?_
    obtain ⟨⟨r_32, I⟩, hc, hs⟩ := bd_e hs
    refine M_call C hI (kX8_refuses l D cy q _ _ _ _ _ _ _ hc) ml_X8_87 im_X8_refuses se_X8_refuses ini_X8 co_X8_refuses hyX8_refuses rfl ⟨by decide, by decide⟩ hl.1 rfl (Nat.le_of_ble_eq_true rfl) dX8_wind_32 (fun H locs hI => ?_)
    obtain ⟨rfl, rfl, rfl⟩ := so3 hs
    exact M_iret C hI dX8_wind_35
  · have hs := if_f cn hs
    refine lv_iload_n C.1 C.2.1 dX8_wind_10 rfl (lv_at hl 2 rfl) ?_
    refine lv_iconst (v := 1) C.1 C.2.1 dX8_wind_11 (by decide) ?_
    refine lv_bipush (v := 100) C.1 C.2.1 dX8_wind_12 (by decide) ?_
    obtain ⟨r_14, hc, hs⟩ := bd_e hs
    refine S_call (h := 1) C (kX8_in l _ _ _ _ hc) ml_X8_83 st_X8_in ini_X8 co_X8_in hyX8_in rfl ⟨by decide, by decide⟩ hl.1 rfl (Nat.le_of_ble_eq_true rfl) dX8_wind_14 ⟨Nat.le_refl 0, Nat.le_refl 0, Nat.le_refl _, Nat.le_refl _⟩ ?_
    refine lv_if_eq (tgt := 30) C.1 C.2.1 dX8_wind_17 (by decide) (fun cn => ?_) (fun cn => ?_)
    · have hs := if_t cn hs
      refine lv_aload_n C.1 C.2.1 dX8_wind_30 rfl (lv_at hl 0 rfl) ?_
      refine lv_iconst (v := -1) C.1 C.2.1 dX8_wind_31 (by decide) ?_
      obtain ⟨⟨r_32, I⟩, hc, hs⟩ := bd_e hs
      refine M_call C hI (kX8_refuses l D cy q _ _ _ _ _ _ _ hc) ml_X8_87 im_X8_refuses se_X8_refuses ini_X8 co_X8_refuses hyX8_refuses rfl ⟨by decide, by decide⟩ hl.1 rfl (Nat.le_of_ble_eq_true rfl) dX8_wind_32 (fun H locs hI => ?_)
      obtain ⟨rfl, rfl, rfl⟩ := so3 hs
      exact M_iret C hI dX8_wind_35
    · have hs := if_f cn hs
      refine lv_iload_n C.1 C.2.1 dX8_wind_20 rfl (lv_at hl 3 rfl) ?_
      refine lv_iconst (v := 1) C.1 C.2.1 dX8_wind_21 (by decide) ?_
      refine lv_ldc C.1 C.2.1 C.2.2.2.1 (C.2.2.2.2.1 _ kc_X8_102) dX8_wind_22 ?_
      obtain ⟨r_24, hc, hs⟩ := bd_e hs
      refine S_call (h := 1) C (kX8_in l _ _ _ _ hc) ml_X8_83 st_X8_in ini_X8 co_X8_in hyX8_in rfl ⟨by decide, by decide⟩ hl.1 rfl (Nat.le_of_ble_eq_true rfl) dX8_wind_24 ⟨Nat.le_refl 0, Nat.le_refl 0, Nat.le_refl _, Nat.le_refl _⟩ ?_
      refine lv_if_ne (tgt := 36) C.1 C.2.1 dX8_wind_27 (by decide) (fun cn => ?_) (fun cn => ?_)
      · have hs := if_f cn hs
        refine lv_aload_n C.1 C.2.1 dX8_wind_36 rfl (lv_at hl 0 rfl) ?_
        refine mg_1 C hI dX8_wind_37 ?_
        refine lv_sipush (v := 1633) C.1 C.2.1 dX8_wind_40 (by decide) ?_
        refine ma_1 C hI (by decide) dX8_wind_43 ?_
        refine lv_topi (fun x4_44 ex4_44 => ?_)
        have hs := gv_at ex4_44 hs
        refine lv_istore (lv' := [(4, .int x4_44), (0, .ref (q 46)), (1, .int x1), (2, .int x2), (3, .int x3)]) C.1 C.2.1 dX8_wind_44 hl (by decide) rfl (fun ls hl => ?_)
        refine lv_iload C.1 C.2.1 dX8_wind_46 (lv_at hl 0 rfl) ?_
        refine lv_bipush (v := 16) C.1 C.2.1 dX8_wind_48 (by decide) ?_
        refine lv_icmp_ne (tgt := 60) C.1 C.2.1 dX8_wind_50 (by decide) (fun cn => ?_) (fun cn => ?_)
        · have hs := if_f cn hs
          refine lv_aload_n C.1 C.2.1 dX8_wind_60 rfl (lv_at hl 1 rfl) ?_
          refine mg_1 C hI dX8_wind_61 ?_
          refine lv_sipush (v := 165) C.1 C.2.1 dX8_wind_64 (by decide) ?_
          refine lv_iconst (v := 3) C.1 C.2.1 dX8_wind_67 (by decide) ?_
          refine lv_iload C.1 C.2.1 dX8_wind_68 (lv_at hl 0 rfl) ?_
          refine lv_imul C.1 C.2.1 dX8_wind_70 ?_
          refine lv_iadd C.1 C.2.1 dX8_wind_71 ?_
          refine lv_iload_n C.1 C.2.1 dX8_wind_72 rfl (lv_at hl 2 rfl) ?_
          obtain ⟨hk, hs⟩ := ck_e hs
          refine ms_1 C hI hk dX8_wind_73 (fun H locs hI => ?_)
          have hs := gv_be hs
          refine lv_aload_n C.1 C.2.1 dX8_wind_74 rfl (lv_at hl 1 rfl) ?_
          refine mg_1 C hI dX8_wind_75 ?_
          refine lv_sipush (v := 165) C.1 C.2.1 dX8_wind_78 (by decide) ?_
          refine lv_iconst (v := 3) C.1 C.2.1 dX8_wind_81 (by decide) ?_
          refine lv_iload C.1 C.2.1 dX8_wind_82 (lv_at hl 0 rfl) ?_
          refine lv_imul C.1 C.2.1 dX8_wind_84 ?_
          refine lv_iadd C.1 C.2.1 dX8_wind_85 ?_
          refine lv_iconst (v := 1) C.1 C.2.1 dX8_wind_86 (by decide) ?_
          refine lv_iadd C.1 C.2.1 dX8_wind_87 ?_
          refine lv_iload_n C.1 C.2.1 dX8_wind_88 rfl (lv_at hl 3 rfl) ?_
          obtain ⟨hk, hs⟩ := ck_e hs
          refine ms_1 C hI hk dX8_wind_89 (fun H locs hI => ?_)
          have hs := gv_be hs
          refine lv_aload_n C.1 C.2.1 dX8_wind_90 rfl (lv_at hl 1 rfl) ?_
          refine mg_1 C hI dX8_wind_91 ?_
          refine lv_sipush (v := 165) C.1 C.2.1 dX8_wind_94 (by decide) ?_
          refine lv_iconst (v := 3) C.1 C.2.1 dX8_wind_97 (by decide) ?_
          refine lv_iload C.1 C.2.1 dX8_wind_98 (lv_at hl 0 rfl) ?_
          refine lv_imul C.1 C.2.1 dX8_wind_100 ?_
          refine lv_iadd C.1 C.2.1 dX8_wind_101 ?_
          refine lv_iconst (v := 2) C.1 C.2.1 dX8_wind_102 (by decide) ?_
          refine lv_iadd C.1 C.2.1 dX8_wind_103 ?_
          refine lv_iload_n C.1 C.2.1 dX8_wind_104 rfl (lv_at hl 4 rfl) ?_
          obtain ⟨hk, hs⟩ := ck_e hs
          refine ms_1 C hI hk dX8_wind_105 (fun H locs hI => ?_)
          have hs := gv_be hs
          refine lv_aload_n C.1 C.2.1 dX8_wind_106 rfl (lv_at hl 1 rfl) ?_
          refine mg_1 C hI dX8_wind_107 ?_
          refine lv_sipush (v := 1633) C.1 C.2.1 dX8_wind_110 (by decide) ?_
          refine lv_dup2_11 C.1 C.2.1 dX8_wind_113 rfl rfl ?_
          refine ma_1 C hI (by decide) dX8_wind_114 ?_
          refine lv_iconst (v := 1) C.1 C.2.1 dX8_wind_115 (by decide) ?_
          refine lv_iadd C.1 C.2.1 dX8_wind_116 ?_
          refine ms_1 C hI (by decide) dX8_wind_117 (fun H locs hI => ?_)
          have hs := gv_be hs
          refine lv_aload_n C.1 C.2.1 dX8_wind_118 rfl (lv_at hl 1 rfl) ?_
          refine lv_iload C.1 C.2.1 dX8_wind_119 (lv_at hl 0 rfl) ?_
          obtain ⟨⟨r_121, I⟩, hc, hs⟩ := bd_e hs
          refine M_call C hI (kX8_good l D cy q _ _ _ _ _ _ _ hc) ml_X8_91 im_X8_good se_X8_good ini_X8 co_X8_good hyX8_good rfl ⟨by decide, by decide⟩ hl.1 rfl (Nat.le_of_ble_eq_true rfl) dX8_wind_121 (fun H locs hI => ?_)
          obtain ⟨rfl, rfl, rfl⟩ := so3 hs
          exact M_iret C hI dX8_wind_124
        · have hs := if_t cn hs
          refine lv_aload_n C.1 C.2.1 dX8_wind_53 rfl (lv_at hl 1 rfl) ?_
          refine lv_bipush (v := -5) C.1 C.2.1 dX8_wind_54 (by decide) ?_
          obtain ⟨⟨r_56, I⟩, hc, hs⟩ := bd_e hs
          refine M_call C hI (kX8_refuses l D cy q _ _ _ _ _ _ _ hc) ml_X8_87 im_X8_refuses se_X8_refuses ini_X8 co_X8_refuses hyX8_refuses rfl ⟨by decide, by decide⟩ hl.1 rfl (Nat.le_of_ble_eq_true rfl) dX8_wind_56 (fun H locs hI => ?_)
          obtain ⟨rfl, rfl, rfl⟩ := so3 hs
          exact M_iret C hI dX8_wind_59
      · have hs := if_t cn hs
        refine lv_aload_n C.1 C.2.1 dX8_wind_30 rfl (lv_at hl 0 rfl) ?_
        refine lv_iconst (v := -1) C.1 C.2.1 dX8_wind_31 (by decide) ?_
        obtain ⟨⟨r_32, I⟩, hc, hs⟩ := bd_e hs
        refine M_call C hI (kX8_refuses l D cy q _ _ _ _ _ _ _ hc) ml_X8_87 im_X8_refuses se_X8_refuses ini_X8 co_X8_refuses hyX8_refuses rfl ⟨by decide, by decide⟩ hl.1 rfl (Nat.le_of_ble_eq_true rfl) dX8_wind_32 (fun H locs hI => ?_)
        obtain ⟨rfl, rfl, rfl⟩ := so3 hs
        exact M_iret C hI dX8_wind_35

def sX8_holdsOf (x1 : Int32) (I : Nat → Int32) (J : Nat → Int64) (A : Nat → Nat → Int32) (B : Nat → Nat → Int64) : Option ((Int32)) :=
ck (inB ((48 : Int32) + x1) 8047) <|
if (A 1 (ix ((48 : Int32) + x1))) = 0 then
((sX8_term (0 : Int32) I J A B).bind fun r_14 =>
some r_14)
else
(sX8_term (1 : Int32) I J A B).bind fun r_20 =>
(sX8_term (0 : Int32) I J A B).bind fun r_25 =>
(sX8_term (1 : Int32) I J A B).bind fun r_30 =>
ck (inB ((96 : Int32) + x1) 8047) <|
some (r_20 + (((r_25 - r_30) * (A 1 (ix ((96 : Int32) + x1)))) / (4 : Int32)))
set_option maxRecDepth 100000 in
set_option maxHeartbeats 8000000 in
theorem kX8_holdsOf (l : Launch) (D : va_G) (cy : Nat → ClassId) (q : Nat → Nat) (x1 : Int32) (I : Nat → Int32) (J : Nat → Int64) (A : Nat → Nat → Int32) (B : Nat → Nat → Int64) (r : Int32) (hs : sX8_holdsOf x1 I J A B = some r) : McI l yX8_holdsOf cX8_holdsOf 2 (some .int) 1 [.ref (q 46), .int x1] D cy q I J A B (some (.int r)) I J A B := by
  refine M_start rfl rfl (Nat.le_of_ble_eq_true rfl) ?_
  intro p e s m args below meth c H locs C hI ls hl
  have hl : lv_has ls 2 [(0, .ref (q 46)), (1, .int x1)] := hl
  rw [sX8_holdsOf] at hs
  refine lv_aload_n C.1 C.2.1 dX8_holdsOf_0 rfl (lv_at hl 0 rfl) ?_
  refine mg_1 C hI dX8_holdsOf_1 ?_
  refine lv_bipush (v := 48) C.1 C.2.1 dX8_holdsOf_4 (by decide) ?_
  refine lv_iload_n C.1 C.2.1 dX8_holdsOf_6 rfl (lv_at hl 1 rfl) ?_
  refine lv_iadd C.1 C.2.1 dX8_holdsOf_7 ?_
  obtain ⟨hk, hs⟩ := ck_e hs
  refine ma_1 C hI hk dX8_holdsOf_8 ?_
  refine lv_if_ne (tgt := 18) C.1 C.2.1 dX8_holdsOf_9 (by decide) (fun cn => ?_) (fun cn => ?_)
  · have hs := if_f cn hs
    refine lv_aload_n C.1 C.2.1 dX8_holdsOf_18 rfl (lv_at hl 0 rfl) ?_
    refine lv_iconst (v := 1) C.1 C.2.1 dX8_holdsOf_19 (by decide) ?_
    obtain ⟨r_20, hc, hs⟩ := bd_e hs
    refine M_call C hI (kX8_term l D cy q _ _ _ _ _ _ hc) ml_X8_99 im_X8_term se_X8_term ini_X8 co_X8_term hyX8_term rfl ⟨by decide, by decide⟩ hl.1 rfl (Nat.le_of_ble_eq_true rfl) dX8_holdsOf_20 (fun H locs hI => ?_)
    refine lv_aload_n C.1 C.2.1 dX8_holdsOf_23 rfl (lv_at hl 0 rfl) ?_
    refine lv_iconst (v := 0) C.1 C.2.1 dX8_holdsOf_24 (by decide) ?_
    obtain ⟨r_25, hc, hs⟩ := bd_e hs
    refine M_call C hI (kX8_term l D cy q _ _ _ _ _ _ hc) ml_X8_99 im_X8_term se_X8_term ini_X8 co_X8_term hyX8_term rfl ⟨by decide, by decide⟩ hl.1 rfl (Nat.le_of_ble_eq_true rfl) dX8_holdsOf_25 (fun H locs hI => ?_)
    refine lv_aload_n C.1 C.2.1 dX8_holdsOf_28 rfl (lv_at hl 0 rfl) ?_
    refine lv_iconst (v := 1) C.1 C.2.1 dX8_holdsOf_29 (by decide) ?_
    obtain ⟨r_30, hc, hs⟩ := bd_e hs
    refine M_call C hI (kX8_term l D cy q _ _ _ _ _ _ hc) ml_X8_99 im_X8_term se_X8_term ini_X8 co_X8_term hyX8_term rfl ⟨by decide, by decide⟩ hl.1 rfl (Nat.le_of_ble_eq_true rfl) dX8_holdsOf_30 (fun H locs hI => ?_)
    refine lv_isub C.1 C.2.1 dX8_holdsOf_33 ?_
    refine lv_aload_n C.1 C.2.1 dX8_holdsOf_34 rfl (lv_at hl 0 rfl) ?_
    refine mg_1 C hI dX8_holdsOf_35 ?_
    refine lv_bipush (v := 96) C.1 C.2.1 dX8_holdsOf_38 (by decide) ?_
    refine lv_iload_n C.1 C.2.1 dX8_holdsOf_40 rfl (lv_at hl 1 rfl) ?_
    refine lv_iadd C.1 C.2.1 dX8_holdsOf_41 ?_
    obtain ⟨hk, hs⟩ := ck_e hs
    refine ma_1 C hI hk dX8_holdsOf_42 ?_
    refine lv_imul C.1 C.2.1 dX8_holdsOf_43 ?_
    refine lv_iconst (v := 4) C.1 C.2.1 dX8_holdsOf_44 (by decide) ?_
    refine lv_idiv C.1 C.2.1 dX8_holdsOf_45 (by decide) ?_
    refine lv_iadd C.1 C.2.1 dX8_holdsOf_46 ?_
    obtain rfl := Option.some.inj hs
    exact M_iret C hI dX8_holdsOf_47
  · have hs := if_t cn hs
    refine lv_aload_n C.1 C.2.1 dX8_holdsOf_12 rfl (lv_at hl 0 rfl) ?_
    refine lv_iconst (v := 0) C.1 C.2.1 dX8_holdsOf_13 (by decide) ?_
    obtain ⟨r_14, hc, hs⟩ := bd_e hs
    refine M_call C hI (kX8_term l D cy q _ _ _ _ _ _ hc) ml_X8_99 im_X8_term se_X8_term ini_X8 co_X8_term hyX8_term rfl ⟨by decide, by decide⟩ hl.1 rfl (Nat.le_of_ble_eq_true rfl) dX8_holdsOf_14 (fun H locs hI => ?_)
    obtain rfl := Option.some.inj hs
    exact M_iret C hI dX8_holdsOf_17

def sX8_northOf (x0 : Int32) : Option ((Int32)) :=
(sX8_eastOf ((x0 + (6 : Int32)) - (x0 + (6 : Int32)) / (8 : Int32) * (8 : Int32))).bind fun r_7 =>
some r_7
set_option maxRecDepth 100000 in
set_option maxHeartbeats 8000000 in
theorem kX8_northOf (l : Launch) (x0 : Int32) (r : Int32) (hs : sX8_northOf x0 = some r) : McS l yX8_northOf cX8_northOf 1 (some .int) 1 [.int x0] (some (.int r)) := by
  refine S_start rfl (Nat.le_of_ble_eq_true rfl) ?_
  intro p e s m args below meth c H locs C hI ls hl
  have hl : lv_has ls 1 [(0, .int x0)] := hl
  rw [sX8_northOf] at hs
  refine lv_iload_n C.1 C.2.1 dX8_northOf_0 rfl (lv_at hl 0 rfl) ?_
  refine lv_bipush (v := 6) C.1 C.2.1 dX8_northOf_1 (by decide) ?_
  refine lv_iadd C.1 C.2.1 dX8_northOf_3 ?_
  refine lv_bipush (v := 8) C.1 C.2.1 dX8_northOf_4 (by decide) ?_
  refine lv_irem C.1 C.2.1 dX8_northOf_6 (by decide) ?_
  obtain ⟨r_7, hc, hs⟩ := bd_e hs
  refine S_call (h := 1) C (kX8_eastOf l _ _ hc) ml_X8_106 st_X8_eastOf ini_X8 co_X8_eastOf hyX8_eastOf rfl ⟨by decide, by decide⟩ hl.1 rfl (Nat.le_of_ble_eq_true rfl) dX8_northOf_7 ⟨Nat.le_refl 0, Nat.le_refl 0, Nat.le_refl _, Nat.le_refl _⟩ ?_
  obtain rfl := Option.some.inj hs
  exact S_iret C hI dX8_northOf_10

def sX8_end (x1 : Int32) (I : Nat → Int32) (J : Nat → Int64) (A : Nat → Nat → Int32) (B : Nat → Nat → Int64) : Option ((Int32) × (Nat → Int32)) :=
(sX8_in x1 (0 : Int32) (I 20)).bind fun r_6 =>
if r_6 = 0 then
(some ((-1 : Int32), I))
else
gv (upd I 20 x1) fun I =>
some (x1, I)
set_option maxRecDepth 100000 in
set_option maxHeartbeats 8000000 in
theorem kX8_end (l : Launch) (D : va_G) (cy : Nat → ClassId) (q : Nat → Nat) (x1 : Int32) (I : Nat → Int32) (J : Nat → Int64) (A : Nat → Nat → Int32) (B : Nat → Nat → Int64) (r : Int32) (I2 : Nat → Int32) (hs : sX8_end x1 I J A B = some (r, I2)) : McI l yX8_end cX8_end 2 (some .int) 1 [.ref (q 46), .int x1] D cy q I J A B (some (.int r)) I2 J A B := by
  refine M_start rfl rfl (Nat.le_of_ble_eq_true rfl) ?_
  intro p e s m args below meth c H locs C hI ls hl
  have hl : lv_has ls 2 [(0, .ref (q 46)), (1, .int x1)] := hl
  rw [sX8_end] at hs
  refine lv_iload_n C.1 C.2.1 dX8_end_0 rfl (lv_at hl 1 rfl) ?_
  refine lv_iconst (v := 0) C.1 C.2.1 dX8_end_1 (by decide) ?_
  refine lv_aload_n C.1 C.2.1 dX8_end_2 rfl (lv_at hl 0 rfl) ?_
  refine mg_20 C hI dX8_end_3 ?_
  obtain ⟨r_6, hc, hs⟩ := bd_e hs
  refine S_call (h := 1) C (kX8_in l _ _ _ _ hc) ml_X8_83 st_X8_in ini_X8 co_X8_in hyX8_in rfl ⟨by decide, by decide⟩ hl.1 rfl (Nat.le_of_ble_eq_true rfl) dX8_end_6 ⟨Nat.le_refl 0, Nat.le_refl 0, Nat.le_refl _, Nat.le_refl _⟩ ?_
  refine lv_if_ne (tgt := 14) C.1 C.2.1 dX8_end_9 (by decide) (fun cn => ?_) (fun cn => ?_)
  · have hs := if_f cn hs
    refine lv_aload_n C.1 C.2.1 dX8_end_14 rfl (lv_at hl 0 rfl) ?_
    refine lv_iload_n C.1 C.2.1 dX8_end_15 rfl (lv_at hl 1 rfl) ?_
    refine mp_20 C hI dX8_end_16 (fun H locs hI => ?_)
    have hs := gv_be hs
    refine lv_iload_n C.1 C.2.1 dX8_end_19 rfl (lv_at hl 1 rfl) ?_
    obtain ⟨rfl, rfl⟩ := so2 hs
    exact M_iret C hI dX8_end_20
  · have hs := if_t cn hs
    refine lv_iconst (v := -1) C.1 C.2.1 dX8_end_12 (by decide) ?_
    obtain ⟨rfl, rfl⟩ := so2 hs
    exact M_iret C hI dX8_end_13

def lX8_cuts_169 : Nat → Int32 → Int32 → Int32 → Int32 → (Nat → Int32) → (Nat → Int64) → (Nat → Nat → Int32) → (Nat → Nat → Int64) → Option ((Nat → Nat → Int32))
  | 0, _, _, _, _, _, _, _, _ => none
  | n + 1, x1, x3, x4, x5, I, J, A, B =>
    if x4 ≤ x5 then
    (some A)
    else
    (sX8_isDigit x3).bind fun r_177 =>
    if r_177 = 0 then
    (some A)
    else
    ck (inB (I 25) 401) <|
    if (A 23 (ix (I 25))) ≤ (1000000 : Int32) then
    (ck (inB (I 25) 401) <|
    ck (inB x5 400) <|
    ck (inB (I 25) 401) <|
    gv (va_up A 23 (upd (A 23) (ix (I 25)) ((((10 : Int32) * (A 23 (ix (I 25)))) + (A 18 (ix x5))) - (48 : Int32)))) fun A =>
    gv (x5 + 1) fun x5_241 =>
    lX8_cuts_169 n x1 x3 x4 x5_241 I J A B)
    else
    ck (inB (I 25) 401) <|
    ck (inB (I 25) 401) <|
    gv (va_up A 23 (upd (A 23) (ix (I 25)) (A 23 (ix (I 25))))) fun A =>
    gv (x5 + 1) fun x5_241 =>
    lX8_cuts_169 n x1 x3 x4 x5_241 I J A B
def lX8_cuts_75 : Nat → Int32 → Int32 → Int32 → Int32 → (Nat → Int32) → (Nat → Int64) → (Nat → Nat → Int32) → (Nat → Nat → Int64) → Option (Int32)
  | 0, _, _, _, _, _, _, _, _ => none
  | n + 1, x1, x2, x3, x4, I, J, A, B =>
    if x1 ≤ x4 then
    (some x4)
    else
    ck (inB x4 400) <|
    (sX8_isDigit (A 18 (ix x4))).bind fun r_88 =>
    if r_88 = 0 then
    (some x4)
    else
    gv (x4 + 1) fun x4_94 =>
    lX8_cuts_75 n x1 x2 x3 x4_94 I J A B
def lX8_cuts_43 : Nat → Int32 → Int32 → Int32 → Int32 → (Nat → Int32) → (Nat → Int64) → (Nat → Nat → Int32) → (Nat → Nat → Int64) → Option (Int32)
  | 0, _, _, _, _, _, _, _, _ => none
  | n + 1, x1, x2, x3, x4, I, J, A, B =>
    if x1 ≤ x4 then
    (some x4)
    else
    ck (inB x4 400) <|
    (sX8_isSmall (A 18 (ix x4))).bind fun r_56 =>
    if r_56 = 0 then
    (some x4)
    else
    gv (x4 + 1) fun x4_62 =>
    lX8_cuts_43 n x1 x2 x3 x4_62 I J A B
def lX8_cuts_7 : Nat → Int32 → Int32 → (Nat → Int32) → (Nat → Int64) → (Nat → Nat → Int32) → (Nat → Nat → Int64) → Option ((Nat → Int32) × (Nat → Nat → Int32))
  | 0, _, _, _, _, _, _ => none
  | n + 1, x1, x2, I, J, A, B =>
    if x1 ≤ x2 then
    (some (I, A))
    else
    ck (inB x2 400) <|
    gv (A 18 (ix x2)) fun x3_18 =>
    if x3_18 = (32 : Int32) then
    (gv (x2 + 1) fun x2_25 =>
    lX8_cuts_7 n x1 x2_25 I J A B)
    else
    gv (x2 + (1 : Int32)) fun x4_34 =>
    (sX8_isSmall x3_18).bind fun r_37 =>
    gv (fun (x4_j68 : Int32) (I : Nat → Int32) (A : Nat → Nat → Int32) =>
    (sX8_isDigit x3_18).bind fun r_69 =>
    gv (fun (x4_j100 : Int32) (I : Nat → Int32) (A : Nat → Nat → Int32) =>
    ck (inB (I 25) 401) <|
    gv (va_up A 24 (upd (A 24) (ix (I 25)) x2)) fun A =>
    ck (inB (I 25) 401) <|
    gv (va_up A 23 (upd (A 23) (ix (I 25)) (0 : Int32))) fun A =>
    (sX8_isSmall x3_18).bind fun r_129 =>
    gv (fun (y2_j165 : Int32) (I : Nat → Int32) (A : Nat → Nat → Int32) =>
    ck (inB (I 25) 401) <|
    gv (va_up A 22 (upd (A 22) (ix (I 25)) y2_j165)) fun A =>
    (lX8_cuts_169 FU x1 x3_18 x4_j100 x2 I J A B).bind fun A =>
    gv (upd I 25 ((I 25) + (1 : Int32))) fun I =>
    lX8_cuts_7 n x1 x4_j100 I J A B) fun k_165 =>
    if r_129 = 0 then
    ((sX8_isDigit x3_18).bind fun r_146 =>
    if r_146 = 0 then
    (k_165 ((100 : Int32) + (x3_18 &&& (255 : Int32))) I A)
    else
    k_165 (50 : Int32) I A)
    else
    (sX8_wordOf x2 x4_j100 I J A B).bind fun r_139 =>
    k_165 r_139 I A) fun k_100 =>
    if r_69 = 0 then
    (k_100 x4_j68 I A)
    else
    (lX8_cuts_75 FU x1 x2 x3_18 x4_j68 I J A B).bind fun x4_75 =>
    k_100 x4_75 I A) fun k_68 =>
    if r_37 = 0 then
    (k_68 x4_34 I A)
    else
    (lX8_cuts_43 FU x1 x2 x3_18 x4_34 I J A B).bind fun x4_43 =>
    k_68 x4_43 I A
def sX8_cuts (x1 : Int32) (I : Nat → Int32) (J : Nat → Int64) (A : Nat → Nat → Int32) (B : Nat → Nat → Int64) : Option ((Nat → Int32) × (Nat → Nat → Int32)) :=
gv (upd I 25 (0 : Int32)) fun I =>
(lX8_cuts_7 FU x1 (0 : Int32) I J A B).bind fun (I, A) =>
ck (inB (I 25) 401) <|
gv (va_up A 24 (upd (A 24) (ix (I 25)) x1)) fun A =>
ck (inB (I 25) 401) <|
gv (va_up A 22 (upd (A 22) (ix (I 25)) (0 : Int32))) fun A =>
ck (inB (I 25) 401) <|
gv (va_up A 23 (upd (A 23) (ix (I 25)) (0 : Int32))) fun A =>
some (I, A)
set_option maxRecDepth 100000 in
set_option maxHeartbeats 8000000 in
theorem kX8_cuts (l : Launch) (D : va_G) (cy : Nat → ClassId) (q : Nat → Nat) (x1 : Int32) (I : Nat → Int32) (J : Nat → Int64) (A : Nat → Nat → Int32) (B : Nat → Nat → Int64) (I2 : Nat → Int32) (A2 : Nat → Nat → Int32) (hs : sX8_cuts x1 I J A B = some (I2, A2)) : McI l yX8_cuts cX8_cuts 6 none 1 [.ref (q 46), .int x1] D cy q I J A B none I2 J A2 B := by
  refine M_start rfl rfl (Nat.le_of_ble_eq_true rfl) ?_
  intro p e s m args below meth c H locs C hI ls hl
  have hl : lv_has ls 6 [(0, .ref (q 46)), (1, .int x1)] := hl
  rw [sX8_cuts] at hs
  refine lv_aload_n C.1 C.2.1 dX8_cuts_0 rfl (lv_at hl 0 rfl) ?_
  refine lv_iconst (v := 0) C.1 C.2.1 dX8_cuts_1 (by decide) ?_
  refine mp_25 C hI dX8_cuts_2 (fun H locs hI => ?_)
  have hs := gv_be hs
  refine lv_iconst (v := 0) C.1 C.2.1 dX8_cuts_5 (by decide) ?_
  refine lv_istore_n (lv' := [(2, .int (0 : Int32)), (0, .ref (q 46)), (1, .int x1)]) C.1 C.2.1 dX8_cuts_6 rfl hl (by decide) rfl (fun ls hl => ?_)
  have KL_7 : ∀ (n : Nat) (x1 : Int32) (x2 : Int32) (I : Nat → Int32) (J : Nat → Int64) (A : Nat → Nat → Int32) (B : Nat → Nat → Int64) (o : (Nat → Int32) × (Nat → Nat → Int32)) (Q : State → Prop) (H : Heap) (locs : List Loc) (ls : Array Slot), lX8_cuts_7 n x1 x2 I J A B = some o → MI D cy s s.heap H locs q I J A B → lv_has ls 6 [(0, .ref (q 46)), (1, .int x1), (2, .int x2)] → (∀ (I_0 : Nat → Int32) (A_0 : Nat → Nat → Int32) (H : Heap) (locs : List Loc) (ls : Array Slot), o = (I_0, A_0) → MI D cy s s.heap H locs q I_0 J A_0 B → lv_has ls 6 [(0, .ref (q 46)), (1, .int x1)] → W p l e (rmL 1) s m args below meth c H locs 0 0 Q (F0 m 263 ls [])) → W p l e (rmL 1) s m args below meth c H locs 0 0 Q (F0 m 7 ls []) := by
    intro n; induction n with
    | zero => intro x1 x2 I J A B o Q H locs ls hs; rw [lX8_cuts_7] at hs; cases hs
    | succ n ih =>
      intro x1 x2 I J A B o Q H locs ls hs hI hl kk0
      rw [lX8_cuts_7] at hs
      refine lv_iload_n C.1 C.2.1 dX8_cuts_7 rfl (lv_at hl 2 rfl) ?_
      refine lv_iload_n C.1 C.2.1 dX8_cuts_8 rfl (lv_at hl 1 rfl) ?_
      refine lv_icmp_ge (tgt := 263) C.1 C.2.1 dX8_cuts_9 (by decide) (fun cn => ?_) (fun cn => ?_)
      · have hs := if_t cn hs
        have eo := (Option.some.inj hs).symm
        exact kk0 _ _ _ _ _ eo hI (lv_sub hl [0, 1] rfl)
      · have hs := if_f cn hs
        refine lv_aload_n C.1 C.2.1 dX8_cuts_12 rfl (lv_at hl 0 rfl) ?_
        refine mg_18 C hI dX8_cuts_13 ?_
        refine lv_iload_n C.1 C.2.1 dX8_cuts_16 rfl (lv_at hl 2 rfl) ?_
        obtain ⟨hk, hs⟩ := ck_e hs
        refine ma_18 C hI hk dX8_cuts_17 ?_
        refine lv_topi (fun x3_18 ex3_18 => ?_)
        have hs := gv_at ex3_18 hs
        refine lv_istore_n (lv' := [(3, .int x3_18), (0, .ref (q 46)), (1, .int x1), (2, .int x2)]) C.1 C.2.1 dX8_cuts_18 rfl hl (by decide) rfl (fun ls hl => ?_)
        refine lv_iload_n C.1 C.2.1 dX8_cuts_19 rfl (lv_at hl 0 rfl) ?_
        refine lv_bipush (v := 32) C.1 C.2.1 dX8_cuts_20 (by decide) ?_
        refine lv_icmp_ne (tgt := 31) C.1 C.2.1 dX8_cuts_22 (by decide) (fun cn => ?_) (fun cn => ?_)
        · have hs := if_f cn hs
          refine lv_iload_n C.1 C.2.1 dX8_cuts_31 rfl (lv_at hl 3 rfl) ?_
          refine lv_iconst (v := 1) C.1 C.2.1 dX8_cuts_32 (by decide) ?_
          refine lv_iadd C.1 C.2.1 dX8_cuts_33 ?_
          refine lv_topi (fun x4_34 ex4_34 => ?_)
          have hs := gv_at ex4_34 hs
          refine lv_istore (lv' := [(4, .int x4_34), (3, .int x3_18), (0, .ref (q 46)), (1, .int x1), (2, .int x2)]) C.1 C.2.1 dX8_cuts_34 hl (by decide) rfl (fun ls hl => ?_)
          refine lv_iload_n C.1 C.2.1 dX8_cuts_36 rfl (lv_at hl 1 rfl) ?_
          obtain ⟨r_37, hc, hs⟩ := bd_e hs
          refine S_call (h := 1) C (kX8_isSmall l _ _ hc) ml_X8_171 st_X8_isSmall ini_X8 co_X8_isSmall hyX8_isSmall rfl ⟨by decide, by decide⟩ hl.1 rfl (Nat.le_of_ble_eq_true rfl) dX8_cuts_37 ⟨Nat.le_refl 0, Nat.le_refl 0, Nat.le_refl _, Nat.le_refl _⟩ ?_
          obtain ⟨k_68, ek_68, hs⟩ := gv_ex hs
          have KJ_68 : ∀ (x4_j68 : Int32) (I : Nat → Int32) (A : Nat → Nat → Int32) (H : Heap) (locs : List Loc) (ls : Array Slot), k_68 x4_j68 I A = some o → MI D cy s s.heap H locs q I J A B → lv_has ls 6 [(0, .ref (q 46)), (1, .int x1), (2, .int x2), (3, .int x3_18), (4, .int x4_j68)] → W p l e (rmL 1) s m args below meth c H locs 0 0 Q (F0 m 68 ls []) := by
            intro x4_j68 I A H locs ls hs hI hl
            rw [ek_68] at hs
            refine lv_iload_n C.1 C.2.1 dX8_cuts_68 rfl (lv_at hl 3 rfl) ?_
            obtain ⟨r_69, hc, hs⟩ := bd_e hs
            refine S_call (h := 1) C (kX8_isDigit l _ _ hc) ml_X8_174 st_X8_isDigit ini_X8 co_X8_isDigit hyX8_isDigit rfl ⟨by decide, by decide⟩ hl.1 rfl (Nat.le_of_ble_eq_true rfl) dX8_cuts_69 ⟨Nat.le_refl 0, Nat.le_refl 0, Nat.le_refl _, Nat.le_refl _⟩ ?_
            obtain ⟨k_100, ek_100, hs⟩ := gv_ex hs
            have KJ_100 : ∀ (x4_j100 : Int32) (I : Nat → Int32) (A : Nat → Nat → Int32) (H : Heap) (locs : List Loc) (ls : Array Slot), k_100 x4_j100 I A = some o → MI D cy s s.heap H locs q I J A B → lv_has ls 6 [(0, .ref (q 46)), (1, .int x1), (2, .int x2), (3, .int x3_18), (4, .int x4_j100)] → W p l e (rmL 1) s m args below meth c H locs 0 0 Q (F0 m 100 ls []) := by
              intro x4_j100 I A H locs ls hs hI hl
              rw [ek_100] at hs
              refine lv_aload_n C.1 C.2.1 dX8_cuts_100 rfl (lv_at hl 0 rfl) ?_
              refine mg_24 C hI dX8_cuts_101 ?_
              refine lv_aload_n C.1 C.2.1 dX8_cuts_104 rfl (lv_at hl 0 rfl) ?_
              refine mg_25 C hI dX8_cuts_105 ?_
              refine lv_iload_n C.1 C.2.1 dX8_cuts_108 rfl (lv_at hl 2 rfl) ?_
              obtain ⟨hk, hs⟩ := ck_e hs
              refine ms_24 C hI hk dX8_cuts_109 (fun H locs hI => ?_)
              have hs := gv_be hs
              refine lv_aload_n C.1 C.2.1 dX8_cuts_110 rfl (lv_at hl 0 rfl) ?_
              refine mg_23 C hI dX8_cuts_111 ?_
              refine lv_aload_n C.1 C.2.1 dX8_cuts_114 rfl (lv_at hl 0 rfl) ?_
              refine mg_25 C hI dX8_cuts_115 ?_
              refine lv_iconst (v := 0) C.1 C.2.1 dX8_cuts_118 (by decide) ?_
              obtain ⟨hk, hs⟩ := ck_e hs
              refine ms_23 C hI hk dX8_cuts_119 (fun H locs hI => ?_)
              have hs := gv_be hs
              refine lv_aload_n C.1 C.2.1 dX8_cuts_120 rfl (lv_at hl 0 rfl) ?_
              refine mg_22 C hI dX8_cuts_121 ?_
              refine lv_aload_n C.1 C.2.1 dX8_cuts_124 rfl (lv_at hl 0 rfl) ?_
              refine mg_25 C hI dX8_cuts_125 ?_
              refine lv_iload_n C.1 C.2.1 dX8_cuts_128 rfl (lv_at hl 3 rfl) ?_
              obtain ⟨r_129, hc, hs⟩ := bd_e hs
              refine S_call (h := 1) C (kX8_isSmall l _ _ hc) ml_X8_171 st_X8_isSmall ini_X8 co_X8_isSmall hyX8_isSmall rfl ⟨by decide, by decide⟩ hl.1 rfl (Nat.le_of_ble_eq_true rfl) dX8_cuts_129 ⟨Nat.le_refl 0, Nat.le_refl 0, Nat.le_refl _, Nat.le_refl _⟩ ?_
              obtain ⟨k_165, ek_165, hs⟩ := gv_ex hs
              have KJ_165 : ∀ (y2_j165 : Int32) (I : Nat → Int32) (A : Nat → Nat → Int32) (H : Heap) (locs : List Loc) (ls : Array Slot), k_165 y2_j165 I A = some o → MI D cy s s.heap H locs q I J A B → lv_has ls 6 [(0, .ref (q 46)), (1, .int x1), (2, .int x2), (3, .int x3_18), (4, .int x4_j100)] → W p l e (rmL 1) s m args below meth c H locs 0 0 Q (F0 m 165 ls [.int y2_j165, .int (I 25), .ref (q 22)]) := by
                intro y2_j165 I A H locs ls hs hI hl
                rw [ek_165] at hs
                obtain ⟨hk, hs⟩ := ck_e hs
                refine ms_22 C hI hk dX8_cuts_165 (fun H locs hI => ?_)
                have hs := gv_be hs
                refine lv_iload_n C.1 C.2.1 dX8_cuts_166 rfl (lv_at hl 2 rfl) ?_
                refine lv_istore (lv' := [(5, .int x2), (0, .ref (q 46)), (1, .int x1), (2, .int x2), (3, .int x3_18), (4, .int x4_j100)]) C.1 C.2.1 dX8_cuts_167 hl (by decide) rfl (fun ls hl => ?_)
                have KL_169 : ∀ (n : Nat) (x1 : Int32) (x3 : Int32) (x4 : Int32) (x5 : Int32) (I : Nat → Int32) (J : Nat → Int64) (A : Nat → Nat → Int32) (B : Nat → Nat → Int64) (o : (Nat → Nat → Int32)) (Q : State → Prop) (H : Heap) (locs : List Loc) (ls : Array Slot), lX8_cuts_169 n x1 x3 x4 x5 I J A B = some o → MI D cy s s.heap H locs q I J A B → lv_has ls 6 [(0, .ref (q 46)), (1, .int x1), (3, .int x3), (4, .int x4), (5, .int x5)] → (∀ (A_0 : Nat → Nat → Int32) (H : Heap) (locs : List Loc) (ls : Array Slot), o = A_0 → MI D cy s s.heap H locs q I J A_0 B → lv_has ls 6 [(0, .ref (q 46)), (1, .int x1), (4, .int x4)] → W p l e (rmL 1) s m args below meth c H locs 0 0 Q (F0 m 247 ls [])) → W p l e (rmL 1) s m args below meth c H locs 0 0 Q (F0 m 169 ls []) := by
                  intro n; induction n with
                  | zero => intro x1 x3 x4 x5 I J A B o Q H locs ls hs; rw [lX8_cuts_169] at hs; cases hs
                  | succ n ih =>
                    intro x1 x3 x4 x5 I J A B o Q H locs ls hs hI hl kk0
                    rw [lX8_cuts_169] at hs
                    refine lv_iload C.1 C.2.1 dX8_cuts_169 (lv_at hl 4 rfl) ?_
                    refine lv_iload C.1 C.2.1 dX8_cuts_171 (lv_at hl 3 rfl) ?_
                    refine lv_icmp_ge (tgt := 247) C.1 C.2.1 dX8_cuts_173 (by decide) (fun cn => ?_) (fun cn => ?_)
                    · have hs := if_t cn hs
                      have eo := (Option.some.inj hs).symm
                      exact kk0 _ _ _ _ eo hI (lv_sub hl [0, 1, 3] rfl)
                    · have hs := if_f cn hs
                      refine lv_iload_n C.1 C.2.1 dX8_cuts_176 rfl (lv_at hl 2 rfl) ?_
                      obtain ⟨r_177, hc, hs⟩ := bd_e hs
                      refine S_call (h := 1) C (kX8_isDigit l _ _ hc) ml_X8_174 st_X8_isDigit ini_X8 co_X8_isDigit hyX8_isDigit rfl ⟨by decide, by decide⟩ hl.1 rfl (Nat.le_of_ble_eq_true rfl) dX8_cuts_177 ⟨Nat.le_refl 0, Nat.le_refl 0, Nat.le_refl _, Nat.le_refl _⟩ ?_
                      refine lv_if_eq (tgt := 247) C.1 C.2.1 dX8_cuts_180 (by decide) (fun cn => ?_) (fun cn => ?_)
                      · have hs := if_t cn hs
                        have eo := (Option.some.inj hs).symm
                        exact kk0 _ _ _ _ eo hI (lv_sub hl [0, 1, 3] rfl)
                      · have hs := if_f cn hs
                        refine lv_aload_n C.1 C.2.1 dX8_cuts_183 rfl (lv_at hl 0 rfl) ?_
                        refine mg_23 C hI dX8_cuts_184 ?_
                        refine lv_aload_n C.1 C.2.1 dX8_cuts_187 rfl (lv_at hl 0 rfl) ?_
                        refine mg_25 C hI dX8_cuts_188 ?_
                        refine lv_aload_n C.1 C.2.1 dX8_cuts_191 rfl (lv_at hl 0 rfl) ?_
                        refine mg_23 C hI dX8_cuts_192 ?_
                        refine lv_aload_n C.1 C.2.1 dX8_cuts_195 rfl (lv_at hl 0 rfl) ?_
                        refine mg_25 C hI dX8_cuts_196 ?_
                        obtain ⟨hk, hs⟩ := ck_e hs
                        refine ma_23 C hI hk dX8_cuts_199 ?_
                        refine lv_ldc C.1 C.2.1 C.2.2.2.1 (C.2.2.2.2.1 _ kc_X8_102) dX8_cuts_200 ?_
                        refine lv_icmp_le (tgt := 217) C.1 C.2.1 dX8_cuts_202 (by decide) (fun cn => ?_) (fun cn => ?_)
                        · have hs := if_t cn hs
                          refine lv_bipush (v := 10) C.1 C.2.1 dX8_cuts_217 (by decide) ?_
                          refine lv_aload_n C.1 C.2.1 dX8_cuts_219 rfl (lv_at hl 0 rfl) ?_
                          refine mg_23 C hI dX8_cuts_220 ?_
                          refine lv_aload_n C.1 C.2.1 dX8_cuts_223 rfl (lv_at hl 0 rfl) ?_
                          refine mg_25 C hI dX8_cuts_224 ?_
                          obtain ⟨hk, hs⟩ := ck_e hs
                          refine ma_23 C hI hk dX8_cuts_227 ?_
                          refine lv_imul C.1 C.2.1 dX8_cuts_228 ?_
                          refine lv_aload_n C.1 C.2.1 dX8_cuts_229 rfl (lv_at hl 0 rfl) ?_
                          refine mg_18 C hI dX8_cuts_230 ?_
                          refine lv_iload C.1 C.2.1 dX8_cuts_233 (lv_at hl 4 rfl) ?_
                          obtain ⟨hk, hs⟩ := ck_e hs
                          refine ma_18 C hI hk dX8_cuts_235 ?_
                          refine lv_iadd C.1 C.2.1 dX8_cuts_236 ?_
                          refine lv_bipush (v := 48) C.1 C.2.1 dX8_cuts_237 (by decide) ?_
                          refine lv_isub C.1 C.2.1 dX8_cuts_239 ?_
                          obtain ⟨hk, hs⟩ := ck_e hs
                          refine ms_23 C hI hk dX8_cuts_240 (fun H locs hI => ?_)
                          have hs := gv_be hs
                          obtain ⟨x5_241, ex5_241⟩ : ∃ y : Int32, y = (x5 + 1) := ⟨_, rfl⟩
                          have hs := gv_at ex5_241 hs
                          refine lv_iinc (v := x5_241) (lv' := [(5, .int x5_241), (0, .ref (q 46)), (1, .int x1), (3, .int x3), (4, .int x4)]) C.1 C.2.1 dX8_cuts_241 hl (k := 4) rfl (by rw [ex5_241]; rfl) (by decide) rfl (fun ls hl => ?_)
                          refine lv_goto (tgt := 169) C.1 C.2.1 dX8_cuts_244 (by decide) ?_
                          exact ih _ _ _ _ _ _ _ _ _ _ _ _ _ hs hI (lv_sub hl [1, 2, 3, 4, 0] rfl) kk0
                        · have hs := if_f cn hs
                          refine lv_aload_n C.1 C.2.1 dX8_cuts_205 rfl (lv_at hl 0 rfl) ?_
                          refine mg_23 C hI dX8_cuts_206 ?_
                          refine lv_aload_n C.1 C.2.1 dX8_cuts_209 rfl (lv_at hl 0 rfl) ?_
                          refine mg_25 C hI dX8_cuts_210 ?_
                          obtain ⟨hk, hs⟩ := ck_e hs
                          refine ma_23 C hI hk dX8_cuts_213 ?_
                          refine lv_goto (tgt := 240) C.1 C.2.1 dX8_cuts_214 (by decide) ?_
                          obtain ⟨hk, hs⟩ := ck_e hs
                          refine ms_23 C hI hk dX8_cuts_240 (fun H locs hI => ?_)
                          have hs := gv_be hs
                          obtain ⟨x5_241, ex5_241⟩ : ∃ y : Int32, y = (x5 + 1) := ⟨_, rfl⟩
                          have hs := gv_at ex5_241 hs
                          refine lv_iinc (v := x5_241) (lv' := [(5, .int x5_241), (0, .ref (q 46)), (1, .int x1), (3, .int x3), (4, .int x4)]) C.1 C.2.1 dX8_cuts_241 hl (k := 4) rfl (by rw [ex5_241]; rfl) (by decide) rfl (fun ls hl => ?_)
                          refine lv_goto (tgt := 169) C.1 C.2.1 dX8_cuts_244 (by decide) ?_
                          exact ih _ _ _ _ _ _ _ _ _ _ _ _ _ hs hI (lv_sub hl [1, 2, 3, 4, 0] rfl) kk0
                obtain ⟨A_L, hL, hs⟩ := bd_e hs
                refine KL_169 FU _ _ _ _ _ _ _ _ _ _ _ _ _ hL hI (lv_sub hl [1, 2, 4, 5, 0] rfl) (fun z0 H locs ls eo hI hl => ?_)
                subst eo
                refine lv_aload_n C.1 C.2.1 dX8_cuts_247 rfl (lv_at hl 0 rfl) ?_
                refine lv_dup C.1 C.2.1 dX8_cuts_248 rfl ?_
                refine mg_25 C hI dX8_cuts_249 ?_
                refine lv_iconst (v := 1) C.1 C.2.1 dX8_cuts_252 (by decide) ?_
                refine lv_iadd C.1 C.2.1 dX8_cuts_253 ?_
                refine mp_25 C hI dX8_cuts_254 (fun H locs hI => ?_)
                have hs := gv_be hs
                refine lv_iload C.1 C.2.1 dX8_cuts_257 (lv_at hl 2 rfl) ?_
                refine lv_istore_n (lv' := [(2, .int x4_j100), (0, .ref (q 46)), (1, .int x1), (4, .int x4_j100)]) C.1 C.2.1 dX8_cuts_259 rfl hl (by decide) rfl (fun ls hl => ?_)
                refine lv_goto (tgt := 7) C.1 C.2.1 dX8_cuts_260 (by decide) ?_
                exact ih _ _ _ _ _ _ _ _ _ _ _ hs hI (lv_sub hl [1, 2, 0] rfl) kk0
              refine lv_if_eq (tgt := 145) C.1 C.2.1 dX8_cuts_132 (by decide) (fun cn => ?_) (fun cn => ?_)
              · have hs := if_t cn hs
                refine lv_iload_n C.1 C.2.1 dX8_cuts_145 rfl (lv_at hl 3 rfl) ?_
                obtain ⟨r_146, hc, hs⟩ := bd_e hs
                refine S_call (h := 1) C (kX8_isDigit l _ _ hc) ml_X8_174 st_X8_isDigit ini_X8 co_X8_isDigit hyX8_isDigit rfl ⟨by decide, by decide⟩ hl.1 rfl (Nat.le_of_ble_eq_true rfl) dX8_cuts_146 ⟨Nat.le_refl 0, Nat.le_refl 0, Nat.le_refl _, Nat.le_refl _⟩ ?_
                refine lv_if_eq (tgt := 157) C.1 C.2.1 dX8_cuts_149 (by decide) (fun cn => ?_) (fun cn => ?_)
                · have hs := if_t cn hs
                  refine lv_bipush (v := 100) C.1 C.2.1 dX8_cuts_157 (by decide) ?_
                  refine lv_iload_n C.1 C.2.1 dX8_cuts_159 rfl (lv_at hl 3 rfl) ?_
                  refine lv_sipush (v := 255) C.1 C.2.1 dX8_cuts_160 (by decide) ?_
                  refine lv_iand C.1 C.2.1 dX8_cuts_163 ?_
                  refine lv_iadd C.1 C.2.1 dX8_cuts_164 ?_
                  exact KJ_165 _ _ _ _ _ _ hs hI (lv_sub hl [0, 1, 2, 3, 4] rfl)
                · have hs := if_f cn hs
                  refine lv_bipush (v := 50) C.1 C.2.1 dX8_cuts_152 (by decide) ?_
                  refine lv_goto (tgt := 165) C.1 C.2.1 dX8_cuts_154 (by decide) ?_
                  exact KJ_165 _ _ _ _ _ _ hs hI (lv_sub hl [0, 1, 2, 3, 4] rfl)
              · have hs := if_f cn hs
                refine lv_aload_n C.1 C.2.1 dX8_cuts_135 rfl (lv_at hl 0 rfl) ?_
                refine lv_iload_n C.1 C.2.1 dX8_cuts_136 rfl (lv_at hl 2 rfl) ?_
                refine lv_iload C.1 C.2.1 dX8_cuts_137 (lv_at hl 4 rfl) ?_
                obtain ⟨r_139, hc, hs⟩ := bd_e hs
                refine M_call C hI (kX8_wordOf l D cy q _ _ _ _ _ _ _ hc) ml_X8_177 im_X8_wordOf se_X8_wordOf ini_X8 co_X8_wordOf hyX8_wordOf rfl ⟨by decide, by decide⟩ hl.1 rfl (Nat.le_of_ble_eq_true rfl) dX8_cuts_139 (fun H locs hI => ?_)
                refine lv_goto (tgt := 165) C.1 C.2.1 dX8_cuts_142 (by decide) ?_
                exact KJ_165 _ _ _ _ _ _ hs hI (lv_sub hl [0, 1, 2, 3, 4] rfl)
            refine lv_if_eq (tgt := 100) C.1 C.2.1 dX8_cuts_72 (by decide) (fun cn => ?_) (fun cn => ?_)
            · have hs := if_t cn hs
              exact KJ_100 _ _ _ _ _ _ hs hI (lv_sub hl [0, 1, 2, 3, 4] rfl)
            · have hs := if_f cn hs
              have KL_75 : ∀ (n : Nat) (x1 : Int32) (x2 : Int32) (x3 : Int32) (x4 : Int32) (I : Nat → Int32) (J : Nat → Int64) (A : Nat → Nat → Int32) (B : Nat → Nat → Int64) (o : Int32) (Q : State → Prop) (H : Heap) (locs : List Loc) (ls : Array Slot), lX8_cuts_75 n x1 x2 x3 x4 I J A B = some o → MI D cy s s.heap H locs q I J A B → lv_has ls 6 [(0, .ref (q 46)), (1, .int x1), (2, .int x2), (3, .int x3), (4, .int x4)] → (∀ (o4_0 : Int32) (H : Heap) (locs : List Loc) (ls : Array Slot), o = o4_0 → MI D cy s s.heap H locs q I J A B → lv_has ls 6 [(0, .ref (q 46)), (1, .int x1), (2, .int x2), (3, .int x3), (4, .int o4_0)] → W p l e (rmL 1) s m args below meth c H locs 0 0 Q (F0 m 100 ls [])) → W p l e (rmL 1) s m args below meth c H locs 0 0 Q (F0 m 75 ls []) := by
                intro n; induction n with
                | zero => intro x1 x2 x3 x4 I J A B o Q H locs ls hs; rw [lX8_cuts_75] at hs; cases hs
                | succ n ih =>
                  intro x1 x2 x3 x4 I J A B o Q H locs ls hs hI hl kk0
                  rw [lX8_cuts_75] at hs
                  refine lv_iload C.1 C.2.1 dX8_cuts_75 (lv_at hl 4 rfl) ?_
                  refine lv_iload_n C.1 C.2.1 dX8_cuts_77 rfl (lv_at hl 1 rfl) ?_
                  refine lv_icmp_ge (tgt := 100) C.1 C.2.1 dX8_cuts_78 (by decide) (fun cn => ?_) (fun cn => ?_)
                  · have hs := if_t cn hs
                    have eo := (Option.some.inj hs).symm
                    exact kk0 _ _ _ _ eo hI (lv_sub hl [0, 1, 2, 3, 4] rfl)
                  · have hs := if_f cn hs
                    refine lv_aload_n C.1 C.2.1 dX8_cuts_81 rfl (lv_at hl 0 rfl) ?_
                    refine mg_18 C hI dX8_cuts_82 ?_
                    refine lv_iload C.1 C.2.1 dX8_cuts_85 (lv_at hl 4 rfl) ?_
                    obtain ⟨hk, hs⟩ := ck_e hs
                    refine ma_18 C hI hk dX8_cuts_87 ?_
                    obtain ⟨r_88, hc, hs⟩ := bd_e hs
                    refine S_call (h := 1) C (kX8_isDigit l _ _ hc) ml_X8_174 st_X8_isDigit ini_X8 co_X8_isDigit hyX8_isDigit rfl ⟨by decide, by decide⟩ hl.1 rfl (Nat.le_of_ble_eq_true rfl) dX8_cuts_88 ⟨Nat.le_refl 0, Nat.le_refl 0, Nat.le_refl _, Nat.le_refl _⟩ ?_
                    refine lv_if_eq (tgt := 100) C.1 C.2.1 dX8_cuts_91 (by decide) (fun cn => ?_) (fun cn => ?_)
                    · have hs := if_t cn hs
                      have eo := (Option.some.inj hs).symm
                      exact kk0 _ _ _ _ eo hI (lv_sub hl [0, 1, 2, 3, 4] rfl)
                    · have hs := if_f cn hs
                      obtain ⟨x4_94, ex4_94⟩ : ∃ y : Int32, y = (x4 + 1) := ⟨_, rfl⟩
                      have hs := gv_at ex4_94 hs
                      refine lv_iinc (v := x4_94) (lv' := [(4, .int x4_94), (0, .ref (q 46)), (1, .int x1), (2, .int x2), (3, .int x3)]) C.1 C.2.1 dX8_cuts_94 hl (k := 4) rfl (by rw [ex4_94]; rfl) (by decide) rfl (fun ls hl => ?_)
                      refine lv_goto (tgt := 75) C.1 C.2.1 dX8_cuts_97 (by decide) ?_
                      exact ih _ _ _ _ _ _ _ _ _ _ _ _ _ hs hI (lv_sub hl [1, 2, 3, 4, 0] rfl) kk0
              obtain ⟨x4_75, hL, hs⟩ := bd_e hs
              refine KL_75 FU _ _ _ _ _ _ _ _ _ _ _ _ _ hL hI (lv_sub hl [0, 1, 2, 3, 4] rfl) (fun z0 H locs ls eo hI hl => ?_)
              subst eo
              exact KJ_100 _ _ _ _ _ _ hs hI (lv_sub hl [0, 1, 2, 3, 4] rfl)
          refine lv_if_eq (tgt := 68) C.1 C.2.1 dX8_cuts_40 (by decide) (fun cn => ?_) (fun cn => ?_)
          · have hs := if_t cn hs
            exact KJ_68 _ _ _ _ _ _ hs hI (lv_sub hl [2, 3, 4, 1, 0] rfl)
          · have hs := if_f cn hs
            have KL_43 : ∀ (n : Nat) (x1 : Int32) (x2 : Int32) (x3 : Int32) (x4 : Int32) (I : Nat → Int32) (J : Nat → Int64) (A : Nat → Nat → Int32) (B : Nat → Nat → Int64) (o : Int32) (Q : State → Prop) (H : Heap) (locs : List Loc) (ls : Array Slot), lX8_cuts_43 n x1 x2 x3 x4 I J A B = some o → MI D cy s s.heap H locs q I J A B → lv_has ls 6 [(0, .ref (q 46)), (1, .int x1), (2, .int x2), (3, .int x3), (4, .int x4)] → (∀ (o4_0 : Int32) (H : Heap) (locs : List Loc) (ls : Array Slot), o = o4_0 → MI D cy s s.heap H locs q I J A B → lv_has ls 6 [(0, .ref (q 46)), (1, .int x1), (2, .int x2), (3, .int x3), (4, .int o4_0)] → W p l e (rmL 1) s m args below meth c H locs 0 0 Q (F0 m 68 ls [])) → W p l e (rmL 1) s m args below meth c H locs 0 0 Q (F0 m 43 ls []) := by
              intro n; induction n with
              | zero => intro x1 x2 x3 x4 I J A B o Q H locs ls hs; rw [lX8_cuts_43] at hs; cases hs
              | succ n ih =>
                intro x1 x2 x3 x4 I J A B o Q H locs ls hs hI hl kk0
                rw [lX8_cuts_43] at hs
                refine lv_iload C.1 C.2.1 dX8_cuts_43 (lv_at hl 4 rfl) ?_
                refine lv_iload_n C.1 C.2.1 dX8_cuts_45 rfl (lv_at hl 1 rfl) ?_
                refine lv_icmp_ge (tgt := 68) C.1 C.2.1 dX8_cuts_46 (by decide) (fun cn => ?_) (fun cn => ?_)
                · have hs := if_t cn hs
                  have eo := (Option.some.inj hs).symm
                  exact kk0 _ _ _ _ eo hI (lv_sub hl [0, 1, 2, 3, 4] rfl)
                · have hs := if_f cn hs
                  refine lv_aload_n C.1 C.2.1 dX8_cuts_49 rfl (lv_at hl 0 rfl) ?_
                  refine mg_18 C hI dX8_cuts_50 ?_
                  refine lv_iload C.1 C.2.1 dX8_cuts_53 (lv_at hl 4 rfl) ?_
                  obtain ⟨hk, hs⟩ := ck_e hs
                  refine ma_18 C hI hk dX8_cuts_55 ?_
                  obtain ⟨r_56, hc, hs⟩ := bd_e hs
                  refine S_call (h := 1) C (kX8_isSmall l _ _ hc) ml_X8_171 st_X8_isSmall ini_X8 co_X8_isSmall hyX8_isSmall rfl ⟨by decide, by decide⟩ hl.1 rfl (Nat.le_of_ble_eq_true rfl) dX8_cuts_56 ⟨Nat.le_refl 0, Nat.le_refl 0, Nat.le_refl _, Nat.le_refl _⟩ ?_
                  refine lv_if_eq (tgt := 68) C.1 C.2.1 dX8_cuts_59 (by decide) (fun cn => ?_) (fun cn => ?_)
                  · have hs := if_t cn hs
                    have eo := (Option.some.inj hs).symm
                    exact kk0 _ _ _ _ eo hI (lv_sub hl [0, 1, 2, 3, 4] rfl)
                  · have hs := if_f cn hs
                    obtain ⟨x4_62, ex4_62⟩ : ∃ y : Int32, y = (x4 + 1) := ⟨_, rfl⟩
                    have hs := gv_at ex4_62 hs
                    refine lv_iinc (v := x4_62) (lv' := [(4, .int x4_62), (0, .ref (q 46)), (1, .int x1), (2, .int x2), (3, .int x3)]) C.1 C.2.1 dX8_cuts_62 hl (k := 4) rfl (by rw [ex4_62]; rfl) (by decide) rfl (fun ls hl => ?_)
                    refine lv_goto (tgt := 43) C.1 C.2.1 dX8_cuts_65 (by decide) ?_
                    exact ih _ _ _ _ _ _ _ _ _ _ _ _ _ hs hI (lv_sub hl [1, 2, 3, 4, 0] rfl) kk0
            obtain ⟨x4_43, hL, hs⟩ := bd_e hs
            refine KL_43 FU _ _ _ _ _ _ _ _ _ _ _ _ _ hL hI (lv_sub hl [2, 3, 4, 1, 0] rfl) (fun z0 H locs ls eo hI hl => ?_)
            subst eo
            exact KJ_68 _ _ _ _ _ _ hs hI (lv_sub hl [0, 1, 2, 3, 4] rfl)
        · have hs := if_t cn hs
          obtain ⟨x2_25, ex2_25⟩ : ∃ y : Int32, y = (x2 + 1) := ⟨_, rfl⟩
          have hs := gv_at ex2_25 hs
          refine lv_iinc (v := x2_25) (lv' := [(2, .int x2_25), (3, .int x3_18), (0, .ref (q 46)), (1, .int x1)]) C.1 C.2.1 dX8_cuts_25 hl (k := 3) rfl (by rw [ex2_25]; rfl) (by decide) rfl (fun ls hl => ?_)
          refine lv_goto (tgt := 7) C.1 C.2.1 dX8_cuts_28 (by decide) ?_
          exact ih _ _ _ _ _ _ _ _ _ _ _ hs hI (lv_sub hl [2, 3, 0] rfl) kk0
  obtain ⟨⟨I_L, A_L⟩, hL, hs⟩ := bd_e hs
  refine KL_7 FU _ _ _ _ _ _ _ _ _ _ _ hL hI (lv_sub hl [1, 2, 0] rfl) (fun z0 z1 H locs ls eo hI hl => ?_)
  obtain ⟨rfl, rfl⟩ := pr2 eo
  refine lv_aload_n C.1 C.2.1 dX8_cuts_263 rfl (lv_at hl 0 rfl) ?_
  refine mg_24 C hI dX8_cuts_264 ?_
  refine lv_aload_n C.1 C.2.1 dX8_cuts_267 rfl (lv_at hl 0 rfl) ?_
  refine mg_25 C hI dX8_cuts_268 ?_
  refine lv_iload_n C.1 C.2.1 dX8_cuts_271 rfl (lv_at hl 1 rfl) ?_
  obtain ⟨hk, hs⟩ := ck_e hs
  refine ms_24 C hI hk dX8_cuts_272 (fun H locs hI => ?_)
  have hs := gv_be hs
  refine lv_aload_n C.1 C.2.1 dX8_cuts_273 rfl (lv_at hl 0 rfl) ?_
  refine mg_22 C hI dX8_cuts_274 ?_
  refine lv_aload_n C.1 C.2.1 dX8_cuts_277 rfl (lv_at hl 0 rfl) ?_
  refine mg_25 C hI dX8_cuts_278 ?_
  refine lv_iconst (v := 0) C.1 C.2.1 dX8_cuts_281 (by decide) ?_
  obtain ⟨hk, hs⟩ := ck_e hs
  refine ms_22 C hI hk dX8_cuts_282 (fun H locs hI => ?_)
  have hs := gv_be hs
  refine lv_aload_n C.1 C.2.1 dX8_cuts_283 rfl (lv_at hl 0 rfl) ?_
  refine mg_23 C hI dX8_cuts_284 ?_
  refine lv_aload_n C.1 C.2.1 dX8_cuts_287 rfl (lv_at hl 0 rfl) ?_
  refine mg_25 C hI dX8_cuts_288 ?_
  refine lv_iconst (v := 0) C.1 C.2.1 dX8_cuts_291 (by decide) ?_
  obtain ⟨hk, hs⟩ := ck_e hs
  refine ms_23 C hI hk dX8_cuts_292 (fun H locs hI => ?_)
  have hs := gv_be hs
  obtain ⟨rfl, rfl⟩ := so2 hs
  exact M_vret C hI dX8_cuts_293

def sX8_faults (I : Nat → Int32) (J : Nat → Int64) (A : Nat → Nat → Int32) (B : Nat → Nat → Int64) : Option ((Nat → Int32)) :=
(sX8_fine  I J A B).bind fun r_1 =>
if r_1 = 0 then
(some I)
else
ck (inB (I 26) 401) <|
gv (upd I 28 (A 24 (ix (I 26)))) fun I =>
some I
set_option maxRecDepth 100000 in
set_option maxHeartbeats 8000000 in
theorem kX8_faults (l : Launch) (D : va_G) (cy : Nat → ClassId) (q : Nat → Nat) (I : Nat → Int32) (J : Nat → Int64) (A : Nat → Nat → Int32) (B : Nat → Nat → Int64) (I2 : Nat → Int32) (hs : sX8_faults I J A B = some I2) : McI l yX8_faults cX8_faults 1 none 1 [.ref (q 46)] D cy q I J A B none I2 J A B := by
  refine M_start rfl rfl (Nat.le_of_ble_eq_true rfl) ?_
  intro p e s m args below meth c H locs C hI ls hl
  have hl : lv_has ls 1 [(0, .ref (q 46))] := hl
  rw [sX8_faults] at hs
  refine lv_aload_n C.1 C.2.1 dX8_faults_0 rfl (lv_at hl 0 rfl) ?_
  obtain ⟨r_1, hc, hs⟩ := bd_e hs
  refine M_call C hI (kX8_fine l D cy q _ _ _ _ _ hc) ml_X8_183 im_X8_fine se_X8_fine ini_X8 co_X8_fine hyX8_fine rfl ⟨by decide, by decide⟩ hl.1 rfl (Nat.le_of_ble_eq_true rfl) dX8_faults_1 (fun H locs hI => ?_)
  refine lv_if_eq (tgt := 20) C.1 C.2.1 dX8_faults_4 (by decide) (fun cn => ?_) (fun cn => ?_)
  · have hs := if_t cn hs
    obtain rfl := Option.some.inj hs
    exact M_vret C hI dX8_faults_20
  · have hs := if_f cn hs
    refine lv_aload_n C.1 C.2.1 dX8_faults_7 rfl (lv_at hl 0 rfl) ?_
    refine lv_aload_n C.1 C.2.1 dX8_faults_8 rfl (lv_at hl 0 rfl) ?_
    refine mg_24 C hI dX8_faults_9 ?_
    refine lv_aload_n C.1 C.2.1 dX8_faults_12 rfl (lv_at hl 0 rfl) ?_
    refine mg_26 C hI dX8_faults_13 ?_
    obtain ⟨hk, hs⟩ := ck_e hs
    refine ma_24 C hI hk dX8_faults_16 ?_
    refine mp_28 C hI dX8_faults_17 (fun H locs hI => ?_)
    have hs := gv_be hs
    obtain rfl := Option.some.inj hs
    exact M_vret C hI dX8_faults_20

def sX8_takes (x1 : Int32) (I : Nat → Int32) (J : Nat → Int64) (A : Nat → Nat → Int32) (B : Nat → Nat → Int64) : Option ((Int32) × (Nat → Int32)) :=
(sX8_fine  I J A B).bind fun r_1 =>
gv (fun (y0_j25 : Int32) (I : Nat → Int32) =>
if y0_j25 = 0 then
(ck (isB y0_j25) <|
some (y0_j25, I))
else
gv (upd I 26 ((I 26) + (1 : Int32))) fun I =>
ck (isB y0_j25) <|
some (y0_j25, I)) fun k_25 =>
gv (fun (I : Nat → Int32) =>
k_25 (0 : Int32) I) fun k_24 =>
if r_1 = 0 then
(k_24 I)
else
ck (inB (I 26) 401) <|
if (A 22 (ix (I 26))) = x1 then
(k_25 (1 : Int32) I)
else
k_24 I
set_option maxRecDepth 100000 in
set_option maxHeartbeats 8000000 in
theorem kX8_takes (l : Launch) (D : va_G) (cy : Nat → ClassId) (q : Nat → Nat) (x1 : Int32) (I : Nat → Int32) (J : Nat → Int64) (A : Nat → Nat → Int32) (B : Nat → Nat → Int64) (r : Int32) (I2 : Nat → Int32) (hs : sX8_takes x1 I J A B = some (r, I2)) : McI l yX8_takes cX8_takes 3 (some .boolean) 1 [.ref (q 46), .int x1] D cy q I J A B (some (.int r)) I2 J A B := by
  refine M_start rfl rfl (Nat.le_of_ble_eq_true rfl) ?_
  intro p e s m args below meth c H locs C hI ls hl
  have hl : lv_has ls 3 [(0, .ref (q 46)), (1, .int x1)] := hl
  rw [sX8_takes] at hs
  refine lv_aload_n C.1 C.2.1 dX8_takes_0 rfl (lv_at hl 0 rfl) ?_
  obtain ⟨r_1, hc, hs⟩ := bd_e hs
  refine M_call C hI (kX8_fine l D cy q _ _ _ _ _ hc) ml_X8_183 im_X8_fine se_X8_fine ini_X8 co_X8_fine hyX8_fine rfl ⟨by decide, by decide⟩ hl.1 rfl (Nat.le_of_ble_eq_true rfl) dX8_takes_1 (fun H locs hI => ?_)
  obtain ⟨k_25, ek_25, hs⟩ := gv_ex hs
  have KJ_25 : ∀ (y0_j25 : Int32) (I : Nat → Int32) (H : Heap) (locs : List Loc) (ls : Array Slot), k_25 y0_j25 I = some (r, I2) → MI D cy s s.heap H locs q I J A B → lv_has ls 3 [(0, .ref (q 46))] → W p l e (rmL 1) s m args below meth c H locs 0 0 (MQ below (mQ D cy q (some (.int r)) I2 J A B) args s 0 0 (MA q)) (F0 m 25 ls [.int y0_j25]) := by
    intro y0_j25 I H locs ls hs hI hl
    rw [ek_25] at hs
    refine lv_istore_n (lv' := [(2, .int y0_j25), (0, .ref (q 46))]) C.1 C.2.1 dX8_takes_25 rfl hl (by decide) rfl (fun ls hl => ?_)
    refine lv_iload_n C.1 C.2.1 dX8_takes_26 rfl (lv_at hl 0 rfl) ?_
    refine lv_if_eq (tgt := 40) C.1 C.2.1 dX8_takes_27 (by decide) (fun cn => ?_) (fun cn => ?_)
    · have hs := if_t cn hs
      refine lv_iload_n C.1 C.2.1 dX8_takes_40 rfl (lv_at hl 0 rfl) ?_
      obtain ⟨hb, hs⟩ := ck_e hs
      obtain ⟨rfl, rfl⟩ := so2 hs
      exact M_zret C hI hb dX8_takes_41
    · have hs := if_f cn hs
      refine lv_aload_n C.1 C.2.1 dX8_takes_30 rfl (lv_at hl 1 rfl) ?_
      refine lv_dup C.1 C.2.1 dX8_takes_31 rfl ?_
      refine mg_26 C hI dX8_takes_32 ?_
      refine lv_iconst (v := 1) C.1 C.2.1 dX8_takes_35 (by decide) ?_
      refine lv_iadd C.1 C.2.1 dX8_takes_36 ?_
      refine mp_26 C hI dX8_takes_37 (fun H locs hI => ?_)
      have hs := gv_be hs
      refine lv_iload_n C.1 C.2.1 dX8_takes_40 rfl (lv_at hl 0 rfl) ?_
      obtain ⟨hb, hs⟩ := ck_e hs
      obtain ⟨rfl, rfl⟩ := so2 hs
      exact M_zret C hI hb dX8_takes_41
  obtain ⟨k_24, ek_24, hs⟩ := gv_ex hs
  have KJ_24 : ∀ (I : Nat → Int32) (H : Heap) (locs : List Loc) (ls : Array Slot), k_24 I = some (r, I2) → MI D cy s s.heap H locs q I J A B → lv_has ls 3 [(0, .ref (q 46))] → W p l e (rmL 1) s m args below meth c H locs 0 0 (MQ below (mQ D cy q (some (.int r)) I2 J A B) args s 0 0 (MA q)) (F0 m 24 ls []) := by
    intro I H locs ls hs hI hl
    rw [ek_24] at hs
    refine lv_iconst (v := 0) C.1 C.2.1 dX8_takes_24 (by decide) ?_
    exact KJ_25 _ _ _ _ _ hs hI (lv_sub hl [0] rfl)
  refine lv_if_eq (tgt := 24) C.1 C.2.1 dX8_takes_4 (by decide) (fun cn => ?_) (fun cn => ?_)
  · have hs := if_t cn hs
    exact KJ_24 _ _ _ _ hs hI (lv_sub hl [0] rfl)
  · have hs := if_f cn hs
    refine lv_aload_n C.1 C.2.1 dX8_takes_7 rfl (lv_at hl 0 rfl) ?_
    refine mg_22 C hI dX8_takes_8 ?_
    refine lv_aload_n C.1 C.2.1 dX8_takes_11 rfl (lv_at hl 0 rfl) ?_
    refine mg_26 C hI dX8_takes_12 ?_
    obtain ⟨hk, hs⟩ := ck_e hs
    refine ma_22 C hI hk dX8_takes_15 ?_
    refine lv_iload_n C.1 C.2.1 dX8_takes_16 rfl (lv_at hl 1 rfl) ?_
    refine lv_icmp_ne (tgt := 24) C.1 C.2.1 dX8_takes_17 (by decide) (fun cn => ?_) (fun cn => ?_)
    · have hs := if_f cn hs
      exact KJ_24 _ _ _ _ hs hI (lv_sub hl [0] rfl)
    · have hs := if_t cn hs
      refine lv_iconst (v := 1) C.1 C.2.1 dX8_takes_20 (by decide) ?_
      refine lv_goto (tgt := 25) C.1 C.2.1 dX8_takes_21 (by decide) ?_
      exact KJ_25 _ _ _ _ _ hs hI (lv_sub hl [0] rfl)

def sX8_passes (x1 : Int32) (I : Nat → Int32) (J : Nat → Int64) (A : Nat → Nat → Int32) (B : Nat → Nat → Int64) : Option ((Int32) × (Nat → Int32)) :=
(sX8_codeAt (I 29) I J A B).bind fun r_5 =>
gv (if r_5 = x1 then (1 : Int32) else (0 : Int32)) fun v_17 =>
if v_17 = 0 then
(some (v_17, I))
else
gv (upd I 29 ((I 29) + (1 : Int32))) fun I =>
some (v_17, I)
set_option maxRecDepth 100000 in
set_option maxHeartbeats 8000000 in
theorem kX8_passes (l : Launch) (D : va_G) (cy : Nat → ClassId) (q : Nat → Nat) (x1 : Int32) (I : Nat → Int32) (J : Nat → Int64) (A : Nat → Nat → Int32) (B : Nat → Nat → Int64) (r : Int32) (I2 : Nat → Int32) (hs : sX8_passes x1 I J A B = some (r, I2)) : McI l yX8_passes cX8_passes 3 (some .boolean) 1 [.ref (q 46), .int x1] D cy q I J A B (some (.int r)) I2 J A B := by
  refine M_start rfl rfl (Nat.le_of_ble_eq_true rfl) ?_
  intro p e s m args below meth c H locs C hI ls hl
  have hl : lv_has ls 3 [(0, .ref (q 46)), (1, .int x1)] := hl
  rw [sX8_passes] at hs
  refine lv_aload_n C.1 C.2.1 dX8_passes_0 rfl (lv_at hl 0 rfl) ?_
  refine lv_aload_n C.1 C.2.1 dX8_passes_1 rfl (lv_at hl 0 rfl) ?_
  refine mg_29 C hI dX8_passes_2 ?_
  obtain ⟨r_5, hc, hs⟩ := bd_e hs
  refine M_call C hI (kX8_codeAt l D cy q _ _ _ _ _ _ hc) ml_X8_243 im_X8_codeAt se_X8_codeAt ini_X8 co_X8_codeAt hyX8_codeAt rfl ⟨by decide, by decide⟩ hl.1 rfl (Nat.le_of_ble_eq_true rfl) dX8_passes_5 (fun H locs hI => ?_)
  refine lv_iload_n C.1 C.2.1 dX8_passes_8 rfl (lv_at hl 1 rfl) ?_
  obtain ⟨v_17, ev_17, hs⟩ := gv_ex hs
  have KP_17 : W p l e (rmL 1) s m args below meth c H locs 0 0 (MQ below (mQ D cy q (some (.int r)) I2 J A B) args s 0 0 (MA q)) (F0 m 17 ls [.int v_17]) := by
    refine lv_istore_n (lv' := [(2, .int v_17), (0, .ref (q 46)), (1, .int x1)]) C.1 C.2.1 dX8_passes_17 rfl hl (by decide) rfl (fun ls hl => ?_)
    refine lv_iload_n C.1 C.2.1 dX8_passes_18 rfl (lv_at hl 0 rfl) ?_
    refine lv_if_eq (tgt := 32) C.1 C.2.1 dX8_passes_19 (by decide) (fun cn => ?_) (fun cn => ?_)
    · have hs := if_t cn hs
      refine lv_iload_n C.1 C.2.1 dX8_passes_32 rfl (lv_at hl 0 rfl) ?_
      obtain ⟨rfl, rfl⟩ := so2 hs
      exact M_zret C hI (isB_ev ev_17 (by (repeat' split) <;> decide)) dX8_passes_33
    · have hs := if_f cn hs
      refine lv_aload_n C.1 C.2.1 dX8_passes_22 rfl (lv_at hl 1 rfl) ?_
      refine lv_dup C.1 C.2.1 dX8_passes_23 rfl ?_
      refine mg_29 C hI dX8_passes_24 ?_
      refine lv_iconst (v := 1) C.1 C.2.1 dX8_passes_27 (by decide) ?_
      refine lv_iadd C.1 C.2.1 dX8_passes_28 ?_
      refine mp_29 C hI dX8_passes_29 (fun H locs hI => ?_)
      have hs := gv_be hs
      refine lv_iload_n C.1 C.2.1 dX8_passes_32 rfl (lv_at hl 0 rfl) ?_
      obtain ⟨rfl, rfl⟩ := so2 hs
      exact M_zret C hI (isB_ev ev_17 (by (repeat' split) <;> decide)) dX8_passes_33
  refine lv_icmp_ne (tgt := 16) C.1 C.2.1 dX8_passes_9 (by decide) (fun cn => ?_) (fun cn => ?_)
  · have ev_17 := if_f' cn ev_17
    refine lv_iconst (v := 0) C.1 C.2.1 dX8_passes_16 (by decide) ?_
    subst ev_17
    exact KP_17
  · have ev_17 := if_t' cn ev_17
    refine lv_iconst (v := 1) C.1 C.2.1 dX8_passes_12 (by decide) ?_
    refine lv_goto (tgt := 17) C.1 C.2.1 dX8_passes_13 (by decide) ?_
    subst ev_17
    exact KP_17

def sX8_isDay (x0 : Int32) : Option ((Int32)) :=
(sX8_in x0 (0 : Int32) (9999 : Int32)).bind fun r_5 =>
ck (isB r_5) <|
some r_5
set_option maxRecDepth 100000 in
set_option maxHeartbeats 8000000 in
theorem kX8_isDay (l : Launch) (x0 : Int32) (r : Int32) (hs : sX8_isDay x0 = some r) : McS l yX8_isDay cX8_isDay 1 (some .boolean) 1 [.int x0] (some (.int r)) := by
  refine S_start rfl (Nat.le_of_ble_eq_true rfl) ?_
  intro p e s m args below meth c H locs C hI ls hl
  have hl : lv_has ls 1 [(0, .int x0)] := hl
  rw [sX8_isDay] at hs
  refine lv_iload_n C.1 C.2.1 dX8_isDay_0 rfl (lv_at hl 0 rfl) ?_
  refine lv_iconst (v := 0) C.1 C.2.1 dX8_isDay_1 (by decide) ?_
  refine lv_sipush (v := 9999) C.1 C.2.1 dX8_isDay_2 (by decide) ?_
  obtain ⟨r_5, hc, hs⟩ := bd_e hs
  refine S_call (h := 1) C (kX8_in l _ _ _ _ hc) ml_X8_83 st_X8_in ini_X8 co_X8_in hyX8_in rfl ⟨by decide, by decide⟩ hl.1 rfl (Nat.le_of_ble_eq_true rfl) dX8_isDay_5 ⟨Nat.le_refl 0, Nat.le_refl 0, Nat.le_refl _, Nat.le_refl _⟩ ?_
  obtain ⟨hb, hs⟩ := ck_e hs
  obtain rfl := Option.some.inj hs
  exact S_zret C hI hb dX8_isDay_8

def sX8_drawing (x1 : Int32) (x2 : Int32) (I : Nat → Int32) (J : Nat → Int64) (A : Nat → Nat → Int32) (B : Nat → Nat → Int64) : Option ((Int32)) :=
(sX8_in x1 (0 : Int32) ((A 1 (ix (1635 : Int32))) - (1 : Int32))).bind fun r_12 =>
if r_12 = 0 then
(some (-1 : Int32))
else
(sX8_in x2 (0 : Int32) (5 : Int32)).bind fun r_21 =>
if r_21 = 0 then
(some (-1 : Int32))
else
(sX8_stepOf x1 x2 I J A B).bind fun r_30 =>
some r_30
set_option maxRecDepth 100000 in
set_option maxHeartbeats 8000000 in
theorem kX8_drawing (l : Launch) (D : va_G) (cy : Nat → ClassId) (q : Nat → Nat) (x1 : Int32) (x2 : Int32) (I : Nat → Int32) (J : Nat → Int64) (A : Nat → Nat → Int32) (B : Nat → Nat → Int64) (r : Int32) (hs : sX8_drawing x1 x2 I J A B = some r) : McI l yX8_drawing cX8_drawing 3 (some .int) 1 [.ref (q 46), .int x1, .int x2] D cy q I J A B (some (.int r)) I J A B := by
  refine M_start rfl rfl (Nat.le_of_ble_eq_true rfl) ?_
  intro p e s m args below meth c H locs C hI ls hl
  have hl : lv_has ls 3 [(0, .ref (q 46)), (1, .int x1), (2, .int x2)] := hl
  rw [sX8_drawing] at hs
  refine lv_iload_n C.1 C.2.1 dX8_drawing_0 rfl (lv_at hl 1 rfl) ?_
  refine lv_iconst (v := 0) C.1 C.2.1 dX8_drawing_1 (by decide) ?_
  refine lv_aload_n C.1 C.2.1 dX8_drawing_2 rfl (lv_at hl 0 rfl) ?_
  refine mg_1 C hI dX8_drawing_3 ?_
  refine lv_sipush (v := 1635) C.1 C.2.1 dX8_drawing_6 (by decide) ?_
  refine ma_1 C hI (by decide) dX8_drawing_9 ?_
  refine lv_iconst (v := 1) C.1 C.2.1 dX8_drawing_10 (by decide) ?_
  refine lv_isub C.1 C.2.1 dX8_drawing_11 ?_
  obtain ⟨r_12, hc, hs⟩ := bd_e hs
  refine S_call (h := 1) C (kX8_in l _ _ _ _ hc) ml_X8_83 st_X8_in ini_X8 co_X8_in hyX8_in rfl ⟨by decide, by decide⟩ hl.1 rfl (Nat.le_of_ble_eq_true rfl) dX8_drawing_12 ⟨Nat.le_refl 0, Nat.le_refl 0, Nat.le_refl _, Nat.le_refl _⟩ ?_
  refine lv_if_eq (tgt := 36) C.1 C.2.1 dX8_drawing_15 (by decide) (fun cn => ?_) (fun cn => ?_)
  · have hs := if_t cn hs
    refine lv_iconst (v := -1) C.1 C.2.1 dX8_drawing_36 (by decide) ?_
    obtain rfl := Option.some.inj hs
    exact M_iret C hI dX8_drawing_37
  · have hs := if_f cn hs
    refine lv_iload_n C.1 C.2.1 dX8_drawing_18 rfl (lv_at hl 2 rfl) ?_
    refine lv_iconst (v := 0) C.1 C.2.1 dX8_drawing_19 (by decide) ?_
    refine lv_iconst (v := 5) C.1 C.2.1 dX8_drawing_20 (by decide) ?_
    obtain ⟨r_21, hc, hs⟩ := bd_e hs
    refine S_call (h := 1) C (kX8_in l _ _ _ _ hc) ml_X8_83 st_X8_in ini_X8 co_X8_in hyX8_in rfl ⟨by decide, by decide⟩ hl.1 rfl (Nat.le_of_ble_eq_true rfl) dX8_drawing_21 ⟨Nat.le_refl 0, Nat.le_refl 0, Nat.le_refl _, Nat.le_refl _⟩ ?_
    refine lv_if_eq (tgt := 36) C.1 C.2.1 dX8_drawing_24 (by decide) (fun cn => ?_) (fun cn => ?_)
    · have hs := if_t cn hs
      refine lv_iconst (v := -1) C.1 C.2.1 dX8_drawing_36 (by decide) ?_
      obtain rfl := Option.some.inj hs
      exact M_iret C hI dX8_drawing_37
    · have hs := if_f cn hs
      refine lv_aload_n C.1 C.2.1 dX8_drawing_27 rfl (lv_at hl 0 rfl) ?_
      refine lv_iload_n C.1 C.2.1 dX8_drawing_28 rfl (lv_at hl 1 rfl) ?_
      refine lv_iload_n C.1 C.2.1 dX8_drawing_29 rfl (lv_at hl 2 rfl) ?_
      obtain ⟨r_30, hc, hs⟩ := bd_e hs
      refine M_call C hI (kX8_stepOf l D cy q _ _ _ _ _ _ _ hc) ml_X8_316 im_X8_stepOf se_X8_stepOf ini_X8 co_X8_stepOf hyX8_stepOf rfl ⟨by decide, by decide⟩ hl.1 rfl (Nat.le_of_ble_eq_true rfl) dX8_drawing_30 (fun H locs hI => ?_)
      refine lv_goto (tgt := 37) C.1 C.2.1 dX8_drawing_33 (by decide) ?_
      obtain rfl := Option.some.inj hs
      exact M_iret C hI dX8_drawing_37

def lX8_oddsOf_5 : Nat → Int32 → Int64 → Int32 → (Nat → Int32) → (Nat → Int64) → (Nat → Nat → Int32) → (Nat → Nat → Int64) → Option (Int64)
  | 0, _, _, _, _, _, _, _ => none
  | n + 1, x1, x2, x4, I, J, A, B =>
    if (A 1 (ix (1633 : Int32))) ≤ x4 then
    (some x2)
    else
    if ((x1 >>> (x4 &&& 31)) &&& (1 : Int32)) = (1 : Int32) then
    ((sX8_windOf x4 (2 : Int32) I J A B).bind fun r_33 =>
    gv (x2 + (r_33.toInt64)) fun x2_42 =>
    gv (x4 + 1) fun x4_43 =>
    lX8_oddsOf_5 n x1 x2_42 x4_43 I J A B)
    else
    gv (x2 + (0 : Int64)) fun x2_42 =>
    gv (x4 + 1) fun x4_43 =>
    lX8_oddsOf_5 n x1 x2_42 x4_43 I J A B
def sX8_oddsOf (x1 : Int32) (I : Nat → Int32) (J : Nat → Int64) (A : Nat → Nat → Int32) (B : Nat → Nat → Int64) : Option ((Int64)) :=
(lX8_oddsOf_5 FU x1 (0 : Int64) (0 : Int32) I J A B).bind fun x2_5 =>
some x2_5
set_option maxRecDepth 100000 in
set_option maxHeartbeats 8000000 in
theorem kX8_oddsOf (l : Launch) (D : va_G) (cy : Nat → ClassId) (q : Nat → Nat) (x1 : Int32) (I : Nat → Int32) (J : Nat → Int64) (A : Nat → Nat → Int32) (B : Nat → Nat → Int64) (r : Int64) (hs : sX8_oddsOf x1 I J A B = some r) : McI l yX8_oddsOf cX8_oddsOf 5 (some .long) 1 [.ref (q 46), .int x1] D cy q I J A B (some (.long r)) I J A B := by
  refine M_start rfl rfl (Nat.le_of_ble_eq_true rfl) ?_
  intro p e s m args below meth c H locs C hI ls hl
  have hl : lv_has ls 5 [(0, .ref (q 46)), (1, .int x1)] := hl
  rw [sX8_oddsOf] at hs
  refine lv_lconst (v := 0) C.1 C.2.1 dX8_oddsOf_0 (by decide) ?_
  refine lv_lstore_n (lv' := [(2, .long (0 : Int64)), (0, .ref (q 46)), (1, .int x1)]) C.1 C.2.1 dX8_oddsOf_1 rfl hl (by decide) rfl (fun ls hl => ?_)
  refine lv_iconst (v := 0) C.1 C.2.1 dX8_oddsOf_2 (by decide) ?_
  refine lv_istore (lv' := [(4, .int (0 : Int32)), (2, .long (0 : Int64)), (0, .ref (q 46)), (1, .int x1)]) C.1 C.2.1 dX8_oddsOf_3 hl (by decide) rfl (fun ls hl => ?_)
  have KL_5 : ∀ (n : Nat) (x1 : Int32) (x2 : Int64) (x4 : Int32) (I : Nat → Int32) (J : Nat → Int64) (A : Nat → Nat → Int32) (B : Nat → Nat → Int64) (o : Int64) (Q : State → Prop) (H : Heap) (locs : List Loc) (ls : Array Slot), lX8_oddsOf_5 n x1 x2 x4 I J A B = some o → MI D cy s s.heap H locs q I J A B → lv_has ls 5 [(0, .ref (q 46)), (1, .int x1), (2, .long x2), (4, .int x4)] → (∀ (o2_0 : Int64) (H : Heap) (locs : List Loc) (ls : Array Slot), o = o2_0 → MI D cy s s.heap H locs q I J A B → lv_has ls 5 [(2, .long o2_0)] → W p l e (rmL 1) s m args below meth c H locs 0 0 Q (F0 m 49 ls [])) → W p l e (rmL 1) s m args below meth c H locs 0 0 Q (F0 m 5 ls []) := by
    intro n; induction n with
    | zero => intro x1 x2 x4 I J A B o Q H locs ls hs; rw [lX8_oddsOf_5] at hs; cases hs
    | succ n ih =>
      intro x1 x2 x4 I J A B o Q H locs ls hs hI hl kk0
      rw [lX8_oddsOf_5] at hs
      refine lv_iload C.1 C.2.1 dX8_oddsOf_5 (lv_at hl 3 rfl) ?_
      refine lv_aload_n C.1 C.2.1 dX8_oddsOf_7 rfl (lv_at hl 0 rfl) ?_
      refine mg_1 C hI dX8_oddsOf_8 ?_
      refine lv_sipush (v := 1633) C.1 C.2.1 dX8_oddsOf_11 (by decide) ?_
      refine ma_1 C hI (by decide) dX8_oddsOf_14 ?_
      refine lv_icmp_ge (tgt := 49) C.1 C.2.1 dX8_oddsOf_15 (by decide) (fun cn => ?_) (fun cn => ?_)
      · have hs := if_t cn hs
        have eo := (Option.some.inj hs).symm
        exact kk0 _ _ _ _ eo hI (lv_sub hl [2] rfl)
      · have hs := if_f cn hs
        refine lv_lload_n C.1 C.2.1 dX8_oddsOf_18 rfl (lv_at hl 2 rfl) ?_
        refine lv_iload_n C.1 C.2.1 dX8_oddsOf_19 rfl (lv_at hl 1 rfl) ?_
        refine lv_iload C.1 C.2.1 dX8_oddsOf_20 (lv_at hl 3 rfl) ?_
        refine lv_ishr C.1 C.2.1 dX8_oddsOf_22 ?_
        refine lv_iconst (v := 1) C.1 C.2.1 dX8_oddsOf_23 (by decide) ?_
        refine lv_iand C.1 C.2.1 dX8_oddsOf_24 ?_
        refine lv_iconst (v := 1) C.1 C.2.1 dX8_oddsOf_25 (by decide) ?_
        refine lv_icmp_ne (tgt := 40) C.1 C.2.1 dX8_oddsOf_26 (by decide) (fun cn => ?_) (fun cn => ?_)
        · have hs := if_f cn hs
          refine lv_lconst (v := 0) C.1 C.2.1 dX8_oddsOf_40 (by decide) ?_
          refine lv_ladd C.1 C.2.1 dX8_oddsOf_41 ?_
          refine lv_topl (fun x2_42 ex2_42 => ?_)
          have hs := gv_at ex2_42 hs
          refine lv_lstore_n (lv' := [(2, .long x2_42), (0, .ref (q 46)), (1, .int x1), (4, .int x4)]) C.1 C.2.1 dX8_oddsOf_42 rfl hl (by decide) rfl (fun ls hl => ?_)
          obtain ⟨x4_43, ex4_43⟩ : ∃ y : Int32, y = (x4 + 1) := ⟨_, rfl⟩
          have hs := gv_at ex4_43 hs
          refine lv_iinc (v := x4_43) (lv' := [(4, .int x4_43), (2, .long x2_42), (0, .ref (q 46)), (1, .int x1)]) C.1 C.2.1 dX8_oddsOf_43 hl (k := 3) rfl (by rw [ex4_43]; rfl) (by decide) rfl (fun ls hl => ?_)
          refine lv_goto (tgt := 5) C.1 C.2.1 dX8_oddsOf_46 (by decide) ?_
          exact ih _ _ _ _ _ _ _ _ _ _ _ _ hs hI (lv_sub hl [2, 3, 1, 0] rfl) kk0
        · have hs := if_t cn hs
          refine lv_aload_n C.1 C.2.1 dX8_oddsOf_29 rfl (lv_at hl 0 rfl) ?_
          refine lv_iload C.1 C.2.1 dX8_oddsOf_30 (lv_at hl 3 rfl) ?_
          refine lv_iconst (v := 2) C.1 C.2.1 dX8_oddsOf_32 (by decide) ?_
          obtain ⟨r_33, hc, hs⟩ := bd_e hs
          refine M_call C hI (kX8_windOf l D cy q _ _ _ _ _ _ _ hc) ml_X8_109 im_X8_windOf se_X8_windOf ini_X8 co_X8_windOf hyX8_windOf rfl ⟨by decide, by decide⟩ hl.1 rfl (Nat.le_of_ble_eq_true rfl) dX8_oddsOf_33 (fun H locs hI => ?_)
          refine lv_i2l C.1 C.2.1 dX8_oddsOf_36 rfl ?_
          refine lv_goto (tgt := 41) C.1 C.2.1 dX8_oddsOf_37 (by decide) ?_
          refine lv_ladd C.1 C.2.1 dX8_oddsOf_41 ?_
          refine lv_topl (fun x2_42 ex2_42 => ?_)
          have hs := gv_at ex2_42 hs
          refine lv_lstore_n (lv' := [(2, .long x2_42), (0, .ref (q 46)), (1, .int x1), (4, .int x4)]) C.1 C.2.1 dX8_oddsOf_42 rfl hl (by decide) rfl (fun ls hl => ?_)
          obtain ⟨x4_43, ex4_43⟩ : ∃ y : Int32, y = (x4 + 1) := ⟨_, rfl⟩
          have hs := gv_at ex4_43 hs
          refine lv_iinc (v := x4_43) (lv' := [(4, .int x4_43), (2, .long x2_42), (0, .ref (q 46)), (1, .int x1)]) C.1 C.2.1 dX8_oddsOf_43 hl (k := 3) rfl (by rw [ex4_43]; rfl) (by decide) rfl (fun ls hl => ?_)
          refine lv_goto (tgt := 5) C.1 C.2.1 dX8_oddsOf_46 (by decide) ?_
          exact ih _ _ _ _ _ _ _ _ _ _ _ _ hs hI (lv_sub hl [2, 3, 1, 0] rfl) kk0
  obtain ⟨x2_5, hL, hs⟩ := bd_e hs
  refine KL_5 FU _ _ _ _ _ _ _ _ _ _ _ _ hL hI (lv_sub hl [2, 3, 1, 0] rfl) (fun z0 H locs ls eo hI hl => ?_)
  subst eo
  refine lv_lload_n C.1 C.2.1 dX8_oddsOf_49 rfl (lv_at hl 0 rfl) ?_
  obtain rfl := Option.some.inj hs
  exact M_lret C hI dX8_oddsOf_50

def sX8_night (x1 : Int32) (I : Nat → Int32) (J : Nat → Int64) (A : Nat → Nat → Int32) (B : Nat → Nat → Int64) : Option ((Int32)) :=
(sX8_in x1 (0 : Int32) ((I 45) - (1 : Int32))).bind fun r_8 =>
if r_8 = 0 then
(some (-1 : Int32))
else
ck (inB x1 9) <|
some (A 44 (ix x1))
set_option maxRecDepth 100000 in
set_option maxHeartbeats 8000000 in
theorem kX8_night (l : Launch) (D : va_G) (cy : Nat → ClassId) (q : Nat → Nat) (x1 : Int32) (I : Nat → Int32) (J : Nat → Int64) (A : Nat → Nat → Int32) (B : Nat → Nat → Int64) (r : Int32) (hs : sX8_night x1 I J A B = some r) : McI l yX8_night cX8_night 2 (some .int) 1 [.ref (q 46), .int x1] D cy q I J A B (some (.int r)) I J A B := by
  refine M_start rfl rfl (Nat.le_of_ble_eq_true rfl) ?_
  intro p e s m args below meth c H locs C hI ls hl
  have hl : lv_has ls 2 [(0, .ref (q 46)), (1, .int x1)] := hl
  rw [sX8_night] at hs
  refine lv_iload_n C.1 C.2.1 dX8_night_0 rfl (lv_at hl 1 rfl) ?_
  refine lv_iconst (v := 0) C.1 C.2.1 dX8_night_1 (by decide) ?_
  refine lv_aload_n C.1 C.2.1 dX8_night_2 rfl (lv_at hl 0 rfl) ?_
  refine mg_45 C hI dX8_night_3 ?_
  refine lv_iconst (v := 1) C.1 C.2.1 dX8_night_6 (by decide) ?_
  refine lv_isub C.1 C.2.1 dX8_night_7 ?_
  obtain ⟨r_8, hc, hs⟩ := bd_e hs
  refine S_call (h := 1) C (kX8_in l _ _ _ _ hc) ml_X8_83 st_X8_in ini_X8 co_X8_in hyX8_in rfl ⟨by decide, by decide⟩ hl.1 rfl (Nat.le_of_ble_eq_true rfl) dX8_night_8 ⟨Nat.le_refl 0, Nat.le_refl 0, Nat.le_refl _, Nat.le_refl _⟩ ?_
  refine lv_if_eq (tgt := 23) C.1 C.2.1 dX8_night_11 (by decide) (fun cn => ?_) (fun cn => ?_)
  · have hs := if_t cn hs
    refine lv_iconst (v := -1) C.1 C.2.1 dX8_night_23 (by decide) ?_
    obtain rfl := Option.some.inj hs
    exact M_iret C hI dX8_night_24
  · have hs := if_f cn hs
    refine lv_aload_n C.1 C.2.1 dX8_night_14 rfl (lv_at hl 0 rfl) ?_
    refine mg_44 C hI dX8_night_15 ?_
    refine lv_iload_n C.1 C.2.1 dX8_night_18 rfl (lv_at hl 1 rfl) ?_
    obtain ⟨hk, hs⟩ := ck_e hs
    refine ma_44 C hI hk dX8_night_19 ?_
    refine lv_goto (tgt := 24) C.1 C.2.1 dX8_night_20 (by decide) ?_
    obtain rfl := Option.some.inj hs
    exact M_iret C hI dX8_night_24

def sX8_isEight (x0 : Int32) : Option ((Int32)) :=
(sX8_in x0 (0 : Int32) (7 : Int32)).bind fun r_4 =>
ck (isB r_4) <|
some r_4
set_option maxRecDepth 100000 in
set_option maxHeartbeats 8000000 in
theorem kX8_isEight (l : Launch) (x0 : Int32) (r : Int32) (hs : sX8_isEight x0 = some r) : McS l yX8_isEight cX8_isEight 1 (some .boolean) 1 [.int x0] (some (.int r)) := by
  refine S_start rfl (Nat.le_of_ble_eq_true rfl) ?_
  intro p e s m args below meth c H locs C hI ls hl
  have hl : lv_has ls 1 [(0, .int x0)] := hl
  rw [sX8_isEight] at hs
  refine lv_iload_n C.1 C.2.1 dX8_isEight_0 rfl (lv_at hl 0 rfl) ?_
  refine lv_iconst (v := 0) C.1 C.2.1 dX8_isEight_1 (by decide) ?_
  refine lv_bipush (v := 7) C.1 C.2.1 dX8_isEight_2 (by decide) ?_
  obtain ⟨r_4, hc, hs⟩ := bd_e hs
  refine S_call (h := 1) C (kX8_in l _ _ _ _ hc) ml_X8_83 st_X8_in ini_X8 co_X8_in hyX8_in rfl ⟨by decide, by decide⟩ hl.1 rfl (Nat.le_of_ble_eq_true rfl) dX8_isEight_4 ⟨Nat.le_refl 0, Nat.le_refl 0, Nat.le_refl _, Nat.le_refl _⟩ ?_
  obtain ⟨hb, hs⟩ := ck_e hs
  obtain rfl := Option.some.inj hs
  exact S_zret C hI hb dX8_isEight_7

def sX8_street (x1 : Int32) (x2 : Int32) (x3 : Int32) (I : Nat → Int32) (J : Nat → Int64) (A : Nat → Nat → Int32) (B : Nat → Nat → Int64) : Option ((Int32) × (Nat → Int32) × (Nat → Nat → Int32)) :=
(sX8_in x1 (0 : Int32) (7 : Int32)).bind fun r_4 =>
if r_4 = 0 then
((sX8_refuses (-1 : Int32) I J A B).bind fun (r_33, I) =>
some (r_33, I, A))
else
(sX8_in x2 (1 : Int32) (20 : Int32)).bind fun r_14 =>
if r_14 = 0 then
((sX8_refuses (-1 : Int32) I J A B).bind fun (r_33, I) =>
some (r_33, I, A))
else
(sX8_in x3 (0 : Int32) (10000 : Int32)).bind fun r_25 =>
if r_25 = 0 then
((sX8_refuses (-1 : Int32) I J A B).bind fun (r_33, I) =>
some (r_33, I, A))
else
gv (A 1 (ix (1636 : Int32))) fun x4_45 =>
if x4_45 = (32 : Int32) then
((sX8_refuses (-5 : Int32) I J A B).bind fun (r_57, I) =>
some (r_57, I, A))
else
ck (inB ((637 : Int32) + ((3 : Int32) * x4_45)) 8047) <|
gv (va_up A 1 (upd (A 1) (ix ((637 : Int32) + ((3 : Int32) * x4_45))) x1)) fun A =>
ck (inB (((637 : Int32) + ((3 : Int32) * x4_45)) + (1 : Int32)) 8047) <|
gv (va_up A 1 (upd (A 1) (ix (((637 : Int32) + ((3 : Int32) * x4_45)) + (1 : Int32))) x2)) fun A =>
ck (inB (((637 : Int32) + ((3 : Int32) * x4_45)) + (2 : Int32)) 8047) <|
gv (va_up A 1 (upd (A 1) (ix (((637 : Int32) + ((3 : Int32) * x4_45)) + (2 : Int32))) x3)) fun A =>
gv (va_up A 1 (upd (A 1) (ix (1636 : Int32)) ((A 1 (ix (1636 : Int32))) + (1 : Int32)))) fun A =>
(sX8_good x4_45 I J A B).bind fun (r_122, I) =>
some (r_122, I, A)
set_option maxRecDepth 100000 in
set_option maxHeartbeats 8000000 in
theorem kX8_street (l : Launch) (D : va_G) (cy : Nat → ClassId) (q : Nat → Nat) (x1 : Int32) (x2 : Int32) (x3 : Int32) (I : Nat → Int32) (J : Nat → Int64) (A : Nat → Nat → Int32) (B : Nat → Nat → Int64) (r : Int32) (I2 : Nat → Int32) (A2 : Nat → Nat → Int32) (hs : sX8_street x1 x2 x3 I J A B = some (r, I2, A2)) : McI l yX8_street cX8_street 5 (some .int) 1 [.ref (q 46), .int x1, .int x2, .int x3] D cy q I J A B (some (.int r)) I2 J A2 B := by
  refine M_start rfl rfl (Nat.le_of_ble_eq_true rfl) ?_
  intro p e s m args below meth c H locs C hI ls hl
  have hl : lv_has ls 5 [(0, .ref (q 46)), (1, .int x1), (2, .int x2), (3, .int x3)] := hl
  rw [sX8_street] at hs
  refine lv_iload_n C.1 C.2.1 dX8_street_0 rfl (lv_at hl 1 rfl) ?_
  refine lv_iconst (v := 0) C.1 C.2.1 dX8_street_1 (by decide) ?_
  refine lv_bipush (v := 7) C.1 C.2.1 dX8_street_2 (by decide) ?_
  obtain ⟨r_4, hc, hs⟩ := bd_e hs
  refine S_call (h := 1) C (kX8_in l _ _ _ _ hc) ml_X8_83 st_X8_in ini_X8 co_X8_in hyX8_in rfl ⟨by decide, by decide⟩ hl.1 rfl (Nat.le_of_ble_eq_true rfl) dX8_street_4 ⟨Nat.le_refl 0, Nat.le_refl 0, Nat.le_refl _, Nat.le_refl _⟩ ?_
  refine lv_if_eq (tgt := 31) C.1 C.2.1 dX8_street_7 (by decide) (fun cn => ?_) (fun cn => ?_)
  · have hs := if_t cn hs
    refine lv_aload_n C.1 C.2.1 dX8_street_31 rfl (lv_at hl 0 rfl) ?_
    refine lv_iconst (v := -1) C.1 C.2.1 dX8_street_32 (by decide) ?_
    obtain ⟨⟨r_33, I⟩, hc, hs⟩ := bd_e hs
    refine M_call C hI (kX8_refuses l D cy q _ _ _ _ _ _ _ hc) ml_X8_87 im_X8_refuses se_X8_refuses ini_X8 co_X8_refuses hyX8_refuses rfl ⟨by decide, by decide⟩ hl.1 rfl (Nat.le_of_ble_eq_true rfl) dX8_street_33 (fun H locs hI => ?_)
    obtain ⟨rfl, rfl, rfl⟩ := so3 hs
    exact M_iret C hI dX8_street_36
  · have hs := if_f cn hs
    refine lv_iload_n C.1 C.2.1 dX8_street_10 rfl (lv_at hl 2 rfl) ?_
    refine lv_iconst (v := 1) C.1 C.2.1 dX8_street_11 (by decide) ?_
    refine lv_bipush (v := 20) C.1 C.2.1 dX8_street_12 (by decide) ?_
    obtain ⟨r_14, hc, hs⟩ := bd_e hs
    refine S_call (h := 1) C (kX8_in l _ _ _ _ hc) ml_X8_83 st_X8_in ini_X8 co_X8_in hyX8_in rfl ⟨by decide, by decide⟩ hl.1 rfl (Nat.le_of_ble_eq_true rfl) dX8_street_14 ⟨Nat.le_refl 0, Nat.le_refl 0, Nat.le_refl _, Nat.le_refl _⟩ ?_
    refine lv_if_eq (tgt := 31) C.1 C.2.1 dX8_street_17 (by decide) (fun cn => ?_) (fun cn => ?_)
    · have hs := if_t cn hs
      refine lv_aload_n C.1 C.2.1 dX8_street_31 rfl (lv_at hl 0 rfl) ?_
      refine lv_iconst (v := -1) C.1 C.2.1 dX8_street_32 (by decide) ?_
      obtain ⟨⟨r_33, I⟩, hc, hs⟩ := bd_e hs
      refine M_call C hI (kX8_refuses l D cy q _ _ _ _ _ _ _ hc) ml_X8_87 im_X8_refuses se_X8_refuses ini_X8 co_X8_refuses hyX8_refuses rfl ⟨by decide, by decide⟩ hl.1 rfl (Nat.le_of_ble_eq_true rfl) dX8_street_33 (fun H locs hI => ?_)
      obtain ⟨rfl, rfl, rfl⟩ := so3 hs
      exact M_iret C hI dX8_street_36
    · have hs := if_f cn hs
      refine lv_iload_n C.1 C.2.1 dX8_street_20 rfl (lv_at hl 3 rfl) ?_
      refine lv_iconst (v := 0) C.1 C.2.1 dX8_street_21 (by decide) ?_
      refine lv_sipush (v := 10000) C.1 C.2.1 dX8_street_22 (by decide) ?_
      obtain ⟨r_25, hc, hs⟩ := bd_e hs
      refine S_call (h := 1) C (kX8_in l _ _ _ _ hc) ml_X8_83 st_X8_in ini_X8 co_X8_in hyX8_in rfl ⟨by decide, by decide⟩ hl.1 rfl (Nat.le_of_ble_eq_true rfl) dX8_street_25 ⟨Nat.le_refl 0, Nat.le_refl 0, Nat.le_refl _, Nat.le_refl _⟩ ?_
      refine lv_if_ne (tgt := 37) C.1 C.2.1 dX8_street_28 (by decide) (fun cn => ?_) (fun cn => ?_)
      · have hs := if_f cn hs
        refine lv_aload_n C.1 C.2.1 dX8_street_37 rfl (lv_at hl 0 rfl) ?_
        refine mg_1 C hI dX8_street_38 ?_
        refine lv_sipush (v := 1636) C.1 C.2.1 dX8_street_41 (by decide) ?_
        refine ma_1 C hI (by decide) dX8_street_44 ?_
        refine lv_topi (fun x4_45 ex4_45 => ?_)
        have hs := gv_at ex4_45 hs
        refine lv_istore (lv' := [(4, .int x4_45), (0, .ref (q 46)), (1, .int x1), (2, .int x2), (3, .int x3)]) C.1 C.2.1 dX8_street_45 hl (by decide) rfl (fun ls hl => ?_)
        refine lv_iload C.1 C.2.1 dX8_street_47 (lv_at hl 0 rfl) ?_
        refine lv_bipush (v := 32) C.1 C.2.1 dX8_street_49 (by decide) ?_
        refine lv_icmp_ne (tgt := 61) C.1 C.2.1 dX8_street_51 (by decide) (fun cn => ?_) (fun cn => ?_)
        · have hs := if_f cn hs
          refine lv_aload_n C.1 C.2.1 dX8_street_61 rfl (lv_at hl 1 rfl) ?_
          refine mg_1 C hI dX8_street_62 ?_
          refine lv_sipush (v := 637) C.1 C.2.1 dX8_street_65 (by decide) ?_
          refine lv_iconst (v := 3) C.1 C.2.1 dX8_street_68 (by decide) ?_
          refine lv_iload C.1 C.2.1 dX8_street_69 (lv_at hl 0 rfl) ?_
          refine lv_imul C.1 C.2.1 dX8_street_71 ?_
          refine lv_iadd C.1 C.2.1 dX8_street_72 ?_
          refine lv_iload_n C.1 C.2.1 dX8_street_73 rfl (lv_at hl 2 rfl) ?_
          obtain ⟨hk, hs⟩ := ck_e hs
          refine ms_1 C hI hk dX8_street_74 (fun H locs hI => ?_)
          have hs := gv_be hs
          refine lv_aload_n C.1 C.2.1 dX8_street_75 rfl (lv_at hl 1 rfl) ?_
          refine mg_1 C hI dX8_street_76 ?_
          refine lv_sipush (v := 637) C.1 C.2.1 dX8_street_79 (by decide) ?_
          refine lv_iconst (v := 3) C.1 C.2.1 dX8_street_82 (by decide) ?_
          refine lv_iload C.1 C.2.1 dX8_street_83 (lv_at hl 0 rfl) ?_
          refine lv_imul C.1 C.2.1 dX8_street_85 ?_
          refine lv_iadd C.1 C.2.1 dX8_street_86 ?_
          refine lv_iconst (v := 1) C.1 C.2.1 dX8_street_87 (by decide) ?_
          refine lv_iadd C.1 C.2.1 dX8_street_88 ?_
          refine lv_iload_n C.1 C.2.1 dX8_street_89 rfl (lv_at hl 3 rfl) ?_
          obtain ⟨hk, hs⟩ := ck_e hs
          refine ms_1 C hI hk dX8_street_90 (fun H locs hI => ?_)
          have hs := gv_be hs
          refine lv_aload_n C.1 C.2.1 dX8_street_91 rfl (lv_at hl 1 rfl) ?_
          refine mg_1 C hI dX8_street_92 ?_
          refine lv_sipush (v := 637) C.1 C.2.1 dX8_street_95 (by decide) ?_
          refine lv_iconst (v := 3) C.1 C.2.1 dX8_street_98 (by decide) ?_
          refine lv_iload C.1 C.2.1 dX8_street_99 (lv_at hl 0 rfl) ?_
          refine lv_imul C.1 C.2.1 dX8_street_101 ?_
          refine lv_iadd C.1 C.2.1 dX8_street_102 ?_
          refine lv_iconst (v := 2) C.1 C.2.1 dX8_street_103 (by decide) ?_
          refine lv_iadd C.1 C.2.1 dX8_street_104 ?_
          refine lv_iload_n C.1 C.2.1 dX8_street_105 rfl (lv_at hl 4 rfl) ?_
          obtain ⟨hk, hs⟩ := ck_e hs
          refine ms_1 C hI hk dX8_street_106 (fun H locs hI => ?_)
          have hs := gv_be hs
          refine lv_aload_n C.1 C.2.1 dX8_street_107 rfl (lv_at hl 1 rfl) ?_
          refine mg_1 C hI dX8_street_108 ?_
          refine lv_sipush (v := 1636) C.1 C.2.1 dX8_street_111 (by decide) ?_
          refine lv_dup2_11 C.1 C.2.1 dX8_street_114 rfl rfl ?_
          refine ma_1 C hI (by decide) dX8_street_115 ?_
          refine lv_iconst (v := 1) C.1 C.2.1 dX8_street_116 (by decide) ?_
          refine lv_iadd C.1 C.2.1 dX8_street_117 ?_
          refine ms_1 C hI (by decide) dX8_street_118 (fun H locs hI => ?_)
          have hs := gv_be hs
          refine lv_aload_n C.1 C.2.1 dX8_street_119 rfl (lv_at hl 1 rfl) ?_
          refine lv_iload C.1 C.2.1 dX8_street_120 (lv_at hl 0 rfl) ?_
          obtain ⟨⟨r_122, I⟩, hc, hs⟩ := bd_e hs
          refine M_call C hI (kX8_good l D cy q _ _ _ _ _ _ _ hc) ml_X8_91 im_X8_good se_X8_good ini_X8 co_X8_good hyX8_good rfl ⟨by decide, by decide⟩ hl.1 rfl (Nat.le_of_ble_eq_true rfl) dX8_street_122 (fun H locs hI => ?_)
          obtain ⟨rfl, rfl, rfl⟩ := so3 hs
          exact M_iret C hI dX8_street_125
        · have hs := if_t cn hs
          refine lv_aload_n C.1 C.2.1 dX8_street_54 rfl (lv_at hl 1 rfl) ?_
          refine lv_bipush (v := -5) C.1 C.2.1 dX8_street_55 (by decide) ?_
          obtain ⟨⟨r_57, I⟩, hc, hs⟩ := bd_e hs
          refine M_call C hI (kX8_refuses l D cy q _ _ _ _ _ _ _ hc) ml_X8_87 im_X8_refuses se_X8_refuses ini_X8 co_X8_refuses hyX8_refuses rfl ⟨by decide, by decide⟩ hl.1 rfl (Nat.le_of_ble_eq_true rfl) dX8_street_57 (fun H locs hI => ?_)
          obtain ⟨rfl, rfl, rfl⟩ := so3 hs
          exact M_iret C hI dX8_street_60
      · have hs := if_t cn hs
        refine lv_aload_n C.1 C.2.1 dX8_street_31 rfl (lv_at hl 0 rfl) ?_
        refine lv_iconst (v := -1) C.1 C.2.1 dX8_street_32 (by decide) ?_
        obtain ⟨⟨r_33, I⟩, hc, hs⟩ := bd_e hs
        refine M_call C hI (kX8_refuses l D cy q _ _ _ _ _ _ _ hc) ml_X8_87 im_X8_refuses se_X8_refuses ini_X8 co_X8_refuses hyX8_refuses rfl ⟨by decide, by decide⟩ hl.1 rfl (Nat.le_of_ble_eq_true rfl) dX8_street_33 (fun H locs hI => ?_)
        obtain ⟨rfl, rfl, rfl⟩ := so3 hs
        exact M_iret C hI dX8_street_36

def lX8_row_98 : Nat → Int32 → Int32 → Int32 → Int32 → (Nat → Int32) → (Nat → Int64) → (Nat → Nat → Int32) → (Nat → Nat → Int64) → Option ((Nat → Nat → Int32))
  | 0, _, _, _, _, _, _, _, _ => none
  | n + 1, x1, x2, x3, x4, I, J, A, B =>
    if (x1 - (1 : Int32)) ≤ x4 then
    (some A)
    else
    ck (inB (x4 + (1 : Int32)) 400) <|
    gv ((A 18 (ix (x4 + (1 : Int32)))) &&& (255 : Int32)) fun x5_119 =>
    if (100 : Int32) < x5_119 then
    (if x4 = 0 then
    (ck (inB ((x3 + (2 : Int32)) + x4) 8047) <|
    gv (va_up A 1 (upd (A 1) (ix ((x3 + (2 : Int32)) + x4)) (0 : Int32))) fun A =>
    gv (x4 + 1) fun x4_164 =>
    lX8_row_98 n x1 x2 x3 x4_164 I J A B)
    else
    ck (inB ((x3 + (1 : Int32)) + x4) 8047) <|
    ck (inB ((x3 + (2 : Int32)) + x4) 8047) <|
    gv (va_up A 1 (upd (A 1) (ix ((x3 + (2 : Int32)) + x4)) (A 1 (ix ((x3 + (1 : Int32)) + x4))))) fun A =>
    gv (x4 + 1) fun x4_164 =>
    lX8_row_98 n x1 x2 x3 x4_164 I J A B)
    else
    ck (inB ((x3 + (2 : Int32)) + x4) 8047) <|
    gv (va_up A 1 (upd (A 1) (ix ((x3 + (2 : Int32)) + x4)) x5_119)) fun A =>
    gv (x4 + 1) fun x4_164 =>
    lX8_row_98 n x1 x2 x3 x4_164 I J A B
def sX8_row (I : Nat → Int32) (J : Nat → Int64) (A : Nat → Nat → Int32) (B : Nat → Nat → Int64) : Option ((Int32) × (Nat → Int32) × (Nat → Nat → Int32)) :=
gv (I 20) fun x1_4 =>
gv (upd I 20 (0 : Int32)) fun I =>
gv (A 1 (ix (1637 : Int32))) fun x2_18 =>
if x2_18 = (20 : Int32) then
((sX8_refuses (-5 : Int32) I J A B).bind fun (r_28, I) =>
some (r_28, I, A))
else
(sX8_in x1_4 (2 : Int32) (41 : Int32)).bind fun r_36 =>
if r_36 = 0 then
((sX8_refuses (-6 : Int32) I J A B).bind fun (r_59, I) =>
some (r_59, I, A))
else
(sX8_in (A 18 (ix (0 : Int32))) (0 : Int32) (1 : Int32)).bind fun r_50 =>
if r_50 = 0 then
((sX8_refuses (-6 : Int32) I J A B).bind fun (r_59, I) =>
some (r_59, I, A))
else
gv ((733 : Int32) + ((42 : Int32) * x2_18)) fun x3_71 =>
ck (inB x3_71 8047) <|
gv (va_up A 1 (upd (A 1) (ix x3_71) (A 18 (ix (0 : Int32))))) fun A =>
ck (inB (x3_71 + (1 : Int32)) 8047) <|
gv (va_up A 1 (upd (A 1) (ix (x3_71 + (1 : Int32))) (x1_4 - (1 : Int32)))) fun A =>
(lX8_row_98 FU x1_4 x2_18 x3_71 (0 : Int32) I J A B).bind fun A =>
gv (va_up A 1 (upd (A 1) (ix (1637 : Int32)) ((A 1 (ix (1637 : Int32))) + (1 : Int32)))) fun A =>
(sX8_good (x2_18 + (1 : Int32)) I J A B).bind fun (r_186, I) =>
some (r_186, I, A)
set_option maxRecDepth 100000 in
set_option maxHeartbeats 8000000 in
theorem kX8_row (l : Launch) (D : va_G) (cy : Nat → ClassId) (q : Nat → Nat) (I : Nat → Int32) (J : Nat → Int64) (A : Nat → Nat → Int32) (B : Nat → Nat → Int64) (r : Int32) (I2 : Nat → Int32) (A2 : Nat → Nat → Int32) (hs : sX8_row I J A B = some (r, I2, A2)) : McI l yX8_row cX8_row 6 (some .int) 1 [.ref (q 46)] D cy q I J A B (some (.int r)) I2 J A2 B := by
  refine M_start rfl rfl (Nat.le_of_ble_eq_true rfl) ?_
  intro p e s m args below meth c H locs C hI ls hl
  have hl : lv_has ls 6 [(0, .ref (q 46))] := hl
  rw [sX8_row] at hs
  refine lv_aload_n C.1 C.2.1 dX8_row_0 rfl (lv_at hl 0 rfl) ?_
  refine mg_20 C hI dX8_row_1 ?_
  refine lv_topi (fun x1_4 ex1_4 => ?_)
  have hs := gv_at ex1_4 hs
  refine lv_istore_n (lv' := [(1, .int x1_4), (0, .ref (q 46))]) C.1 C.2.1 dX8_row_4 rfl hl (by decide) rfl (fun ls hl => ?_)
  refine lv_aload_n C.1 C.2.1 dX8_row_5 rfl (lv_at hl 1 rfl) ?_
  refine lv_iconst (v := 0) C.1 C.2.1 dX8_row_6 (by decide) ?_
  refine mp_20 C hI dX8_row_7 (fun H locs hI => ?_)
  have hs := gv_be hs
  refine lv_aload_n C.1 C.2.1 dX8_row_10 rfl (lv_at hl 1 rfl) ?_
  refine mg_1 C hI dX8_row_11 ?_
  refine lv_sipush (v := 1637) C.1 C.2.1 dX8_row_14 (by decide) ?_
  refine ma_1 C hI (by decide) dX8_row_17 ?_
  refine lv_topi (fun x2_18 ex2_18 => ?_)
  have hs := gv_at ex2_18 hs
  refine lv_istore_n (lv' := [(2, .int x2_18), (1, .int x1_4), (0, .ref (q 46))]) C.1 C.2.1 dX8_row_18 rfl hl (by decide) rfl (fun ls hl => ?_)
  refine lv_iload_n C.1 C.2.1 dX8_row_19 rfl (lv_at hl 0 rfl) ?_
  refine lv_bipush (v := 20) C.1 C.2.1 dX8_row_20 (by decide) ?_
  refine lv_icmp_ne (tgt := 32) C.1 C.2.1 dX8_row_22 (by decide) (fun cn => ?_) (fun cn => ?_)
  · have hs := if_f cn hs
    refine lv_iload_n C.1 C.2.1 dX8_row_32 rfl (lv_at hl 1 rfl) ?_
    refine lv_iconst (v := 2) C.1 C.2.1 dX8_row_33 (by decide) ?_
    refine lv_bipush (v := 41) C.1 C.2.1 dX8_row_34 (by decide) ?_
    obtain ⟨r_36, hc, hs⟩ := bd_e hs
    refine S_call (h := 1) C (kX8_in l _ _ _ _ hc) ml_X8_83 st_X8_in ini_X8 co_X8_in hyX8_in rfl ⟨by decide, by decide⟩ hl.1 rfl (Nat.le_of_ble_eq_true rfl) dX8_row_36 ⟨Nat.le_refl 0, Nat.le_refl 0, Nat.le_refl _, Nat.le_refl _⟩ ?_
    refine lv_if_eq (tgt := 56) C.1 C.2.1 dX8_row_39 (by decide) (fun cn => ?_) (fun cn => ?_)
    · have hs := if_t cn hs
      refine lv_aload_n C.1 C.2.1 dX8_row_56 rfl (lv_at hl 2 rfl) ?_
      refine lv_bipush (v := -6) C.1 C.2.1 dX8_row_57 (by decide) ?_
      obtain ⟨⟨r_59, I⟩, hc, hs⟩ := bd_e hs
      refine M_call C hI (kX8_refuses l D cy q _ _ _ _ _ _ _ hc) ml_X8_87 im_X8_refuses se_X8_refuses ini_X8 co_X8_refuses hyX8_refuses rfl ⟨by decide, by decide⟩ hl.1 rfl (Nat.le_of_ble_eq_true rfl) dX8_row_59 (fun H locs hI => ?_)
      obtain ⟨rfl, rfl, rfl⟩ := so3 hs
      exact M_iret C hI dX8_row_62
    · have hs := if_f cn hs
      refine lv_aload_n C.1 C.2.1 dX8_row_42 rfl (lv_at hl 2 rfl) ?_
      refine mg_18 C hI dX8_row_43 ?_
      refine lv_iconst (v := 0) C.1 C.2.1 dX8_row_46 (by decide) ?_
      refine ma_18 C hI (by decide) dX8_row_47 ?_
      refine lv_iconst (v := 0) C.1 C.2.1 dX8_row_48 (by decide) ?_
      refine lv_iconst (v := 1) C.1 C.2.1 dX8_row_49 (by decide) ?_
      obtain ⟨r_50, hc, hs⟩ := bd_e hs
      refine S_call (h := 1) C (kX8_in l _ _ _ _ hc) ml_X8_83 st_X8_in ini_X8 co_X8_in hyX8_in rfl ⟨by decide, by decide⟩ hl.1 rfl (Nat.le_of_ble_eq_true rfl) dX8_row_50 ⟨Nat.le_refl 0, Nat.le_refl 0, Nat.le_refl _, Nat.le_refl _⟩ ?_
      refine lv_if_ne (tgt := 63) C.1 C.2.1 dX8_row_53 (by decide) (fun cn => ?_) (fun cn => ?_)
      · have hs := if_f cn hs
        refine lv_sipush (v := 733) C.1 C.2.1 dX8_row_63 (by decide) ?_
        refine lv_bipush (v := 42) C.1 C.2.1 dX8_row_66 (by decide) ?_
        refine lv_iload_n C.1 C.2.1 dX8_row_68 rfl (lv_at hl 0 rfl) ?_
        refine lv_imul C.1 C.2.1 dX8_row_69 ?_
        refine lv_iadd C.1 C.2.1 dX8_row_70 ?_
        refine lv_topi (fun x3_71 ex3_71 => ?_)
        have hs := gv_at ex3_71 hs
        refine lv_istore_n (lv' := [(3, .int x3_71), (2, .int x2_18), (1, .int x1_4), (0, .ref (q 46))]) C.1 C.2.1 dX8_row_71 rfl hl (by decide) rfl (fun ls hl => ?_)
        refine lv_aload_n C.1 C.2.1 dX8_row_72 rfl (lv_at hl 3 rfl) ?_
        refine mg_1 C hI dX8_row_73 ?_
        refine lv_iload_n C.1 C.2.1 dX8_row_76 rfl (lv_at hl 0 rfl) ?_
        refine lv_aload_n C.1 C.2.1 dX8_row_77 rfl (lv_at hl 3 rfl) ?_
        refine mg_18 C hI dX8_row_78 ?_
        refine lv_iconst (v := 0) C.1 C.2.1 dX8_row_81 (by decide) ?_
        refine ma_18 C hI (by decide) dX8_row_82 ?_
        obtain ⟨hk, hs⟩ := ck_e hs
        refine ms_1 C hI hk dX8_row_83 (fun H locs hI => ?_)
        have hs := gv_be hs
        refine lv_aload_n C.1 C.2.1 dX8_row_84 rfl (lv_at hl 3 rfl) ?_
        refine mg_1 C hI dX8_row_85 ?_
        refine lv_iload_n C.1 C.2.1 dX8_row_88 rfl (lv_at hl 0 rfl) ?_
        refine lv_iconst (v := 1) C.1 C.2.1 dX8_row_89 (by decide) ?_
        refine lv_iadd C.1 C.2.1 dX8_row_90 ?_
        refine lv_iload_n C.1 C.2.1 dX8_row_91 rfl (lv_at hl 2 rfl) ?_
        refine lv_iconst (v := 1) C.1 C.2.1 dX8_row_92 (by decide) ?_
        refine lv_isub C.1 C.2.1 dX8_row_93 ?_
        obtain ⟨hk, hs⟩ := ck_e hs
        refine ms_1 C hI hk dX8_row_94 (fun H locs hI => ?_)
        have hs := gv_be hs
        refine lv_iconst (v := 0) C.1 C.2.1 dX8_row_95 (by decide) ?_
        refine lv_istore (lv' := [(4, .int (0 : Int32)), (3, .int x3_71), (2, .int x2_18), (1, .int x1_4), (0, .ref (q 46))]) C.1 C.2.1 dX8_row_96 hl (by decide) rfl (fun ls hl => ?_)
        have KL_98 : ∀ (n : Nat) (x1 : Int32) (x2 : Int32) (x3 : Int32) (x4 : Int32) (I : Nat → Int32) (J : Nat → Int64) (A : Nat → Nat → Int32) (B : Nat → Nat → Int64) (o : (Nat → Nat → Int32)) (Q : State → Prop) (H : Heap) (locs : List Loc) (ls : Array Slot), lX8_row_98 n x1 x2 x3 x4 I J A B = some o → MI D cy s s.heap H locs q I J A B → lv_has ls 6 [(0, .ref (q 46)), (1, .int x1), (2, .int x2), (3, .int x3), (4, .int x4)] → (∀ (A_0 : Nat → Nat → Int32) (H : Heap) (locs : List Loc) (ls : Array Slot), o = A_0 → MI D cy s s.heap H locs q I J A_0 B → lv_has ls 6 [(0, .ref (q 46)), (2, .int x2)] → W p l e (rmL 1) s m args below meth c H locs 0 0 Q (F0 m 170 ls [])) → W p l e (rmL 1) s m args below meth c H locs 0 0 Q (F0 m 98 ls []) := by
          intro n; induction n with
          | zero => intro x1 x2 x3 x4 I J A B o Q H locs ls hs; rw [lX8_row_98] at hs; cases hs
          | succ n ih =>
            intro x1 x2 x3 x4 I J A B o Q H locs ls hs hI hl kk0
            rw [lX8_row_98] at hs
            refine lv_iload C.1 C.2.1 dX8_row_98 (lv_at hl 4 rfl) ?_
            refine lv_iload_n C.1 C.2.1 dX8_row_100 rfl (lv_at hl 1 rfl) ?_
            refine lv_iconst (v := 1) C.1 C.2.1 dX8_row_101 (by decide) ?_
            refine lv_isub C.1 C.2.1 dX8_row_102 ?_
            refine lv_icmp_ge (tgt := 170) C.1 C.2.1 dX8_row_103 (by decide) (fun cn => ?_) (fun cn => ?_)
            · have hs := if_t cn hs
              have eo := (Option.some.inj hs).symm
              exact kk0 _ _ _ _ eo hI (lv_sub hl [0, 2] rfl)
            · have hs := if_f cn hs
              refine lv_aload_n C.1 C.2.1 dX8_row_106 rfl (lv_at hl 0 rfl) ?_
              refine mg_18 C hI dX8_row_107 ?_
              refine lv_iload C.1 C.2.1 dX8_row_110 (lv_at hl 4 rfl) ?_
              refine lv_iconst (v := 1) C.1 C.2.1 dX8_row_112 (by decide) ?_
              refine lv_iadd C.1 C.2.1 dX8_row_113 ?_
              obtain ⟨hk, hs⟩ := ck_e hs
              refine ma_18 C hI hk dX8_row_114 ?_
              refine lv_sipush (v := 255) C.1 C.2.1 dX8_row_115 (by decide) ?_
              refine lv_iand C.1 C.2.1 dX8_row_118 ?_
              refine lv_topi (fun x5_119 ex5_119 => ?_)
              have hs := gv_at ex5_119 hs
              refine lv_istore (lv' := [(5, .int x5_119), (0, .ref (q 46)), (1, .int x1), (2, .int x2), (3, .int x3), (4, .int x4)]) C.1 C.2.1 dX8_row_119 hl (by decide) rfl (fun ls hl => ?_)
              refine lv_aload_n C.1 C.2.1 dX8_row_121 rfl (lv_at hl 1 rfl) ?_
              refine mg_1 C hI dX8_row_122 ?_
              refine lv_iload_n C.1 C.2.1 dX8_row_125 rfl (lv_at hl 4 rfl) ?_
              refine lv_iconst (v := 2) C.1 C.2.1 dX8_row_126 (by decide) ?_
              refine lv_iadd C.1 C.2.1 dX8_row_127 ?_
              refine lv_iload C.1 C.2.1 dX8_row_128 (lv_at hl 5 rfl) ?_
              refine lv_iadd C.1 C.2.1 dX8_row_130 ?_
              refine lv_iload C.1 C.2.1 dX8_row_131 (lv_at hl 0 rfl) ?_
              refine lv_bipush (v := 100) C.1 C.2.1 dX8_row_133 (by decide) ?_
              refine lv_icmp_gt (tgt := 143) C.1 C.2.1 dX8_row_135 (by decide) (fun cn => ?_) (fun cn => ?_)
              · have hs := if_t cn hs
                refine lv_iload C.1 C.2.1 dX8_row_143 (lv_at hl 5 rfl) ?_
                refine lv_if_ne (tgt := 152) C.1 C.2.1 dX8_row_145 (by decide) (fun cn => ?_) (fun cn => ?_)
                · have hs := if_f cn hs
                  refine lv_aload_n C.1 C.2.1 dX8_row_152 rfl (lv_at hl 1 rfl) ?_
                  refine mg_1 C hI dX8_row_153 ?_
                  refine lv_iload_n C.1 C.2.1 dX8_row_156 rfl (lv_at hl 4 rfl) ?_
                  refine lv_iconst (v := 1) C.1 C.2.1 dX8_row_157 (by decide) ?_
                  refine lv_iadd C.1 C.2.1 dX8_row_158 ?_
                  refine lv_iload C.1 C.2.1 dX8_row_159 (lv_at hl 5 rfl) ?_
                  refine lv_iadd C.1 C.2.1 dX8_row_161 ?_
                  obtain ⟨hk, hs⟩ := ck_e hs
                  refine ma_1 C hI hk dX8_row_162 ?_
                  obtain ⟨hk, hs⟩ := ck_e hs
                  refine ms_1 C hI hk dX8_row_163 (fun H locs hI => ?_)
                  have hs := gv_be hs
                  obtain ⟨x4_164, ex4_164⟩ : ∃ y : Int32, y = (x4 + 1) := ⟨_, rfl⟩
                  have hs := gv_at ex4_164 hs
                  refine lv_iinc (v := x4_164) (lv' := [(4, .int x4_164), (5, .int x5_119), (0, .ref (q 46)), (1, .int x1), (2, .int x2), (3, .int x3)]) C.1 C.2.1 dX8_row_164 hl (k := 5) rfl (by rw [ex4_164]; rfl) (by decide) rfl (fun ls hl => ?_)
                  refine lv_goto (tgt := 98) C.1 C.2.1 dX8_row_167 (by decide) ?_
                  exact ih _ _ _ _ _ _ _ _ _ _ _ _ _ hs hI (lv_sub hl [2, 3, 4, 5, 0] rfl) kk0
                · have hs := if_t cn hs
                  refine lv_iconst (v := 0) C.1 C.2.1 dX8_row_148 (by decide) ?_
                  refine lv_goto (tgt := 163) C.1 C.2.1 dX8_row_149 (by decide) ?_
                  obtain ⟨hk, hs⟩ := ck_e hs
                  refine ms_1 C hI hk dX8_row_163 (fun H locs hI => ?_)
                  have hs := gv_be hs
                  obtain ⟨x4_164, ex4_164⟩ : ∃ y : Int32, y = (x4 + 1) := ⟨_, rfl⟩
                  have hs := gv_at ex4_164 hs
                  refine lv_iinc (v := x4_164) (lv' := [(4, .int x4_164), (5, .int x5_119), (0, .ref (q 46)), (1, .int x1), (2, .int x2), (3, .int x3)]) C.1 C.2.1 dX8_row_164 hl (k := 5) rfl (by rw [ex4_164]; rfl) (by decide) rfl (fun ls hl => ?_)
                  refine lv_goto (tgt := 98) C.1 C.2.1 dX8_row_167 (by decide) ?_
                  exact ih _ _ _ _ _ _ _ _ _ _ _ _ _ hs hI (lv_sub hl [2, 3, 4, 5, 0] rfl) kk0
              · have hs := if_f cn hs
                refine lv_iload C.1 C.2.1 dX8_row_138 (lv_at hl 0 rfl) ?_
                refine lv_goto (tgt := 163) C.1 C.2.1 dX8_row_140 (by decide) ?_
                obtain ⟨hk, hs⟩ := ck_e hs
                refine ms_1 C hI hk dX8_row_163 (fun H locs hI => ?_)
                have hs := gv_be hs
                obtain ⟨x4_164, ex4_164⟩ : ∃ y : Int32, y = (x4 + 1) := ⟨_, rfl⟩
                have hs := gv_at ex4_164 hs
                refine lv_iinc (v := x4_164) (lv' := [(4, .int x4_164), (5, .int x5_119), (0, .ref (q 46)), (1, .int x1), (2, .int x2), (3, .int x3)]) C.1 C.2.1 dX8_row_164 hl (k := 5) rfl (by rw [ex4_164]; rfl) (by decide) rfl (fun ls hl => ?_)
                refine lv_goto (tgt := 98) C.1 C.2.1 dX8_row_167 (by decide) ?_
                exact ih _ _ _ _ _ _ _ _ _ _ _ _ _ hs hI (lv_sub hl [2, 3, 4, 5, 0] rfl) kk0
        obtain ⟨A_L, hL, hs⟩ := bd_e hs
        refine KL_98 FU _ _ _ _ _ _ _ _ _ _ _ _ _ hL hI (lv_sub hl [4, 3, 2, 1, 0] rfl) (fun z0 H locs ls eo hI hl => ?_)
        subst eo
        refine lv_aload_n C.1 C.2.1 dX8_row_170 rfl (lv_at hl 0 rfl) ?_
        refine mg_1 C hI dX8_row_171 ?_
        refine lv_sipush (v := 1637) C.1 C.2.1 dX8_row_174 (by decide) ?_
        refine lv_dup2_11 C.1 C.2.1 dX8_row_177 rfl rfl ?_
        refine ma_1 C hI (by decide) dX8_row_178 ?_
        refine lv_iconst (v := 1) C.1 C.2.1 dX8_row_179 (by decide) ?_
        refine lv_iadd C.1 C.2.1 dX8_row_180 ?_
        refine ms_1 C hI (by decide) dX8_row_181 (fun H locs hI => ?_)
        have hs := gv_be hs
        refine lv_aload_n C.1 C.2.1 dX8_row_182 rfl (lv_at hl 0 rfl) ?_
        refine lv_iload_n C.1 C.2.1 dX8_row_183 rfl (lv_at hl 1 rfl) ?_
        refine lv_iconst (v := 1) C.1 C.2.1 dX8_row_184 (by decide) ?_
        refine lv_iadd C.1 C.2.1 dX8_row_185 ?_
        obtain ⟨⟨r_186, I⟩, hc, hs⟩ := bd_e hs
        refine M_call C hI (kX8_good l D cy q _ _ _ _ _ _ _ hc) ml_X8_91 im_X8_good se_X8_good ini_X8 co_X8_good hyX8_good rfl ⟨by decide, by decide⟩ hl.1 rfl (Nat.le_of_ble_eq_true rfl) dX8_row_186 (fun H locs hI => ?_)
        obtain ⟨rfl, rfl, rfl⟩ := so3 hs
        exact M_iret C hI dX8_row_189
      · have hs := if_t cn hs
        refine lv_aload_n C.1 C.2.1 dX8_row_56 rfl (lv_at hl 2 rfl) ?_
        refine lv_bipush (v := -6) C.1 C.2.1 dX8_row_57 (by decide) ?_
        obtain ⟨⟨r_59, I⟩, hc, hs⟩ := bd_e hs
        refine M_call C hI (kX8_refuses l D cy q _ _ _ _ _ _ _ hc) ml_X8_87 im_X8_refuses se_X8_refuses ini_X8 co_X8_refuses hyX8_refuses rfl ⟨by decide, by decide⟩ hl.1 rfl (Nat.le_of_ble_eq_true rfl) dX8_row_59 (fun H locs hI => ?_)
        obtain ⟨rfl, rfl, rfl⟩ := so3 hs
        exact M_iret C hI dX8_row_62
  · have hs := if_t cn hs
    refine lv_aload_n C.1 C.2.1 dX8_row_25 rfl (lv_at hl 2 rfl) ?_
    refine lv_bipush (v := -5) C.1 C.2.1 dX8_row_26 (by decide) ?_
    obtain ⟨⟨r_28, I⟩, hc, hs⟩ := bd_e hs
    refine M_call C hI (kX8_refuses l D cy q _ _ _ _ _ _ _ hc) ml_X8_87 im_X8_refuses se_X8_refuses ini_X8 co_X8_refuses hyX8_refuses rfl ⟨by decide, by decide⟩ hl.1 rfl (Nat.le_of_ble_eq_true rfl) dX8_row_28 (fun H locs hI => ?_)
    obtain ⟨rfl, rfl, rfl⟩ := so3 hs
    exact M_iret C hI dX8_row_31

def lX8_callOf_40 : Nat → Int32 → Int32 → Int32 → Int32 → Int32 → Int32 → (Nat → Int32) → (Nat → Int64) → (Nat → Nat → Int32) → (Nat → Nat → Int64) → Option (Int32)
  | 0, _, _, _, _, _, _, _, _, _, _ => none
  | n + 1, x1, x2, x3, x4, x5, x6, I, J, A, B =>
    if x5 ≤ x6 then
    (some x6)
    else
    ck (inB ((x4 + (2 : Int32)) + x6) 8047) <|
    if x1 ≤ (A 1 (ix ((x4 + (2 : Int32)) + x6))) then
    (some x6)
    else
    gv (x6 + 1) fun x6_63 =>
    lX8_callOf_40 n x1 x2 x3 x4 x5 x6_63 I J A B
def lX8_callOf_4 : Nat → Int32 → Int32 → Int32 → (Nat → Int32) → (Nat → Int64) → (Nat → Nat → Int32) → (Nat → Nat → Int64) → Option (Int32)
  | 0, _, _, _, _, _, _, _ => none
  | n + 1, x1, x2, x3, I, J, A, B =>
    if (A 1 (ix (1637 : Int32))) ≤ x3 then
    (some x2)
    else
    gv ((733 : Int32) + ((42 : Int32) * x3)) fun x4_24 =>
    ck (inB (x4_24 + (1 : Int32)) 8047) <|
    gv (A 1 (ix (x4_24 + (1 : Int32)))) fun x5_35 =>
    (lX8_callOf_40 FU x1 x2 x3 x4_24 x5_35 (0 : Int32) I J A B).bind fun x6_40 =>
    gv (fun (x2_j85 : Int32) =>
    ck (inB x4_24 8047) <|
    if (A 1 (ix x4_24)) = (1 : Int32) then
    ((sX8_term (8 : Int32) I J A B).bind fun r_104 =>
    if r_104 ≤ (x5_35 - x6_40) then
    (gv (x3 + 1) fun x3_119 =>
    lX8_callOf_4 n x1 x2_j85 x3_119 I J A B)
    else
    (sX8_term (7 : Int32) I J A B).bind fun r_114 =>
    gv (x2_j85 + r_114) fun x2_118 =>
    gv (x3 + 1) fun x3_119 =>
    lX8_callOf_4 n x1 x2_118 x3_119 I J A B)
    else
    gv (x3 + 1) fun x3_119 =>
    lX8_callOf_4 n x1 x2_j85 x3_119 I J A B) fun k_85 =>
    if x5_35 ≤ x6_40 then
    (k_85 x2)
    else
    (sX8_term (6 : Int32) I J A B).bind fun r_80 =>
    gv (x2 + r_80) fun x2_84 =>
    k_85 x2_84
def sX8_callOf (x1 : Int32) (I : Nat → Int32) (J : Nat → Int64) (A : Nat → Nat → Int32) (B : Nat → Nat → Int64) : Option ((Int32)) :=
(lX8_callOf_4 FU x1 (0 : Int32) (0 : Int32) I J A B).bind fun x2_4 =>
some x2_4
set_option maxRecDepth 100000 in
set_option maxHeartbeats 8000000 in
theorem kX8_callOf (l : Launch) (D : va_G) (cy : Nat → ClassId) (q : Nat → Nat) (x1 : Int32) (I : Nat → Int32) (J : Nat → Int64) (A : Nat → Nat → Int32) (B : Nat → Nat → Int64) (r : Int32) (hs : sX8_callOf x1 I J A B = some r) : McI l yX8_callOf cX8_callOf 7 (some .int) 1 [.ref (q 46), .int x1] D cy q I J A B (some (.int r)) I J A B := by
  refine M_start rfl rfl (Nat.le_of_ble_eq_true rfl) ?_
  intro p e s m args below meth c H locs C hI ls hl
  have hl : lv_has ls 7 [(0, .ref (q 46)), (1, .int x1)] := hl
  rw [sX8_callOf] at hs
  refine lv_iconst (v := 0) C.1 C.2.1 dX8_callOf_0 (by decide) ?_
  refine lv_istore_n (lv' := [(2, .int (0 : Int32)), (0, .ref (q 46)), (1, .int x1)]) C.1 C.2.1 dX8_callOf_1 rfl hl (by decide) rfl (fun ls hl => ?_)
  refine lv_iconst (v := 0) C.1 C.2.1 dX8_callOf_2 (by decide) ?_
  refine lv_istore_n (lv' := [(3, .int (0 : Int32)), (2, .int (0 : Int32)), (0, .ref (q 46)), (1, .int x1)]) C.1 C.2.1 dX8_callOf_3 rfl hl (by decide) rfl (fun ls hl => ?_)
  have KL_4 : ∀ (n : Nat) (x1 : Int32) (x2 : Int32) (x3 : Int32) (I : Nat → Int32) (J : Nat → Int64) (A : Nat → Nat → Int32) (B : Nat → Nat → Int64) (o : Int32) (Q : State → Prop) (H : Heap) (locs : List Loc) (ls : Array Slot), lX8_callOf_4 n x1 x2 x3 I J A B = some o → MI D cy s s.heap H locs q I J A B → lv_has ls 7 [(0, .ref (q 46)), (1, .int x1), (2, .int x2), (3, .int x3)] → (∀ (o2_0 : Int32) (H : Heap) (locs : List Loc) (ls : Array Slot), o = o2_0 → MI D cy s s.heap H locs q I J A B → lv_has ls 7 [(2, .int o2_0)] → W p l e (rmL 1) s m args below meth c H locs 0 0 Q (F0 m 125 ls [])) → W p l e (rmL 1) s m args below meth c H locs 0 0 Q (F0 m 4 ls []) := by
    intro n; induction n with
    | zero => intro x1 x2 x3 I J A B o Q H locs ls hs; rw [lX8_callOf_4] at hs; cases hs
    | succ n ih =>
      intro x1 x2 x3 I J A B o Q H locs ls hs hI hl kk0
      rw [lX8_callOf_4] at hs
      refine lv_iload_n C.1 C.2.1 dX8_callOf_4 rfl (lv_at hl 3 rfl) ?_
      refine lv_aload_n C.1 C.2.1 dX8_callOf_5 rfl (lv_at hl 0 rfl) ?_
      refine mg_1 C hI dX8_callOf_6 ?_
      refine lv_sipush (v := 1637) C.1 C.2.1 dX8_callOf_9 (by decide) ?_
      refine ma_1 C hI (by decide) dX8_callOf_12 ?_
      refine lv_icmp_ge (tgt := 125) C.1 C.2.1 dX8_callOf_13 (by decide) (fun cn => ?_) (fun cn => ?_)
      · have hs := if_t cn hs
        have eo := (Option.some.inj hs).symm
        exact kk0 _ _ _ _ eo hI (lv_sub hl [2] rfl)
      · have hs := if_f cn hs
        refine lv_sipush (v := 733) C.1 C.2.1 dX8_callOf_16 (by decide) ?_
        refine lv_bipush (v := 42) C.1 C.2.1 dX8_callOf_19 (by decide) ?_
        refine lv_iload_n C.1 C.2.1 dX8_callOf_21 rfl (lv_at hl 3 rfl) ?_
        refine lv_imul C.1 C.2.1 dX8_callOf_22 ?_
        refine lv_iadd C.1 C.2.1 dX8_callOf_23 ?_
        refine lv_topi (fun x4_24 ex4_24 => ?_)
        have hs := gv_at ex4_24 hs
        refine lv_istore (lv' := [(4, .int x4_24), (0, .ref (q 46)), (1, .int x1), (2, .int x2), (3, .int x3)]) C.1 C.2.1 dX8_callOf_24 hl (by decide) rfl (fun ls hl => ?_)
        refine lv_aload_n C.1 C.2.1 dX8_callOf_26 rfl (lv_at hl 1 rfl) ?_
        refine mg_1 C hI dX8_callOf_27 ?_
        refine lv_iload C.1 C.2.1 dX8_callOf_30 (lv_at hl 0 rfl) ?_
        refine lv_iconst (v := 1) C.1 C.2.1 dX8_callOf_32 (by decide) ?_
        refine lv_iadd C.1 C.2.1 dX8_callOf_33 ?_
        obtain ⟨hk, hs⟩ := ck_e hs
        refine ma_1 C hI hk dX8_callOf_34 ?_
        refine lv_topi (fun x5_35 ex5_35 => ?_)
        have hs := gv_at ex5_35 hs
        refine lv_istore (lv' := [(5, .int x5_35), (4, .int x4_24), (0, .ref (q 46)), (1, .int x1), (2, .int x2), (3, .int x3)]) C.1 C.2.1 dX8_callOf_35 hl (by decide) rfl (fun ls hl => ?_)
        refine lv_iconst (v := 0) C.1 C.2.1 dX8_callOf_37 (by decide) ?_
        refine lv_istore (lv' := [(6, .int (0 : Int32)), (5, .int x5_35), (4, .int x4_24), (0, .ref (q 46)), (1, .int x1), (2, .int x2), (3, .int x3)]) C.1 C.2.1 dX8_callOf_38 hl (by decide) rfl (fun ls hl => ?_)
        have KL_40 : ∀ (n : Nat) (x1 : Int32) (x2 : Int32) (x3 : Int32) (x4 : Int32) (x5 : Int32) (x6 : Int32) (I : Nat → Int32) (J : Nat → Int64) (A : Nat → Nat → Int32) (B : Nat → Nat → Int64) (o : Int32) (Q : State → Prop) (H : Heap) (locs : List Loc) (ls : Array Slot), lX8_callOf_40 n x1 x2 x3 x4 x5 x6 I J A B = some o → MI D cy s s.heap H locs q I J A B → lv_has ls 7 [(0, .ref (q 46)), (1, .int x1), (2, .int x2), (3, .int x3), (4, .int x4), (5, .int x5), (6, .int x6)] → (∀ (o6_0 : Int32) (H : Heap) (locs : List Loc) (ls : Array Slot), o = o6_0 → MI D cy s s.heap H locs q I J A B → lv_has ls 7 [(0, .ref (q 46)), (1, .int x1), (2, .int x2), (3, .int x3), (4, .int x4), (5, .int x5), (6, .int o6_0)] → W p l e (rmL 1) s m args below meth c H locs 0 0 Q (F0 m 69 ls [])) → W p l e (rmL 1) s m args below meth c H locs 0 0 Q (F0 m 40 ls []) := by
          intro n; induction n with
          | zero => intro x1 x2 x3 x4 x5 x6 I J A B o Q H locs ls hs; rw [lX8_callOf_40] at hs; cases hs
          | succ n ih =>
            intro x1 x2 x3 x4 x5 x6 I J A B o Q H locs ls hs hI hl kk0
            rw [lX8_callOf_40] at hs
            refine lv_iload C.1 C.2.1 dX8_callOf_40 (lv_at hl 6 rfl) ?_
            refine lv_iload C.1 C.2.1 dX8_callOf_42 (lv_at hl 5 rfl) ?_
            refine lv_icmp_ge (tgt := 69) C.1 C.2.1 dX8_callOf_44 (by decide) (fun cn => ?_) (fun cn => ?_)
            · have hs := if_t cn hs
              have eo := (Option.some.inj hs).symm
              exact kk0 _ _ _ _ eo hI (lv_sub hl [0, 1, 2, 3, 4, 5, 6] rfl)
            · have hs := if_f cn hs
              refine lv_aload_n C.1 C.2.1 dX8_callOf_47 rfl (lv_at hl 0 rfl) ?_
              refine mg_1 C hI dX8_callOf_48 ?_
              refine lv_iload C.1 C.2.1 dX8_callOf_51 (lv_at hl 4 rfl) ?_
              refine lv_iconst (v := 2) C.1 C.2.1 dX8_callOf_53 (by decide) ?_
              refine lv_iadd C.1 C.2.1 dX8_callOf_54 ?_
              refine lv_iload C.1 C.2.1 dX8_callOf_55 (lv_at hl 6 rfl) ?_
              refine lv_iadd C.1 C.2.1 dX8_callOf_57 ?_
              obtain ⟨hk, hs⟩ := ck_e hs
              refine ma_1 C hI hk dX8_callOf_58 ?_
              refine lv_iload_n C.1 C.2.1 dX8_callOf_59 rfl (lv_at hl 1 rfl) ?_
              refine lv_icmp_ge (tgt := 69) C.1 C.2.1 dX8_callOf_60 (by decide) (fun cn => ?_) (fun cn => ?_)
              · have hs := if_t cn hs
                have eo := (Option.some.inj hs).symm
                exact kk0 _ _ _ _ eo hI (lv_sub hl [0, 1, 2, 3, 4, 5, 6] rfl)
              · have hs := if_f cn hs
                obtain ⟨x6_63, ex6_63⟩ : ∃ y : Int32, y = (x6 + 1) := ⟨_, rfl⟩
                have hs := gv_at ex6_63 hs
                refine lv_iinc (v := x6_63) (lv' := [(6, .int x6_63), (0, .ref (q 46)), (1, .int x1), (2, .int x2), (3, .int x3), (4, .int x4), (5, .int x5)]) C.1 C.2.1 dX8_callOf_63 hl (k := 6) rfl (by rw [ex6_63]; rfl) (by decide) rfl (fun ls hl => ?_)
                refine lv_goto (tgt := 40) C.1 C.2.1 dX8_callOf_66 (by decide) ?_
                exact ih _ _ _ _ _ _ _ _ _ _ _ _ _ _ _ hs hI (lv_sub hl [1, 2, 3, 4, 5, 6, 0] rfl) kk0
        obtain ⟨x6_40, hL, hs⟩ := bd_e hs
        refine KL_40 FU _ _ _ _ _ _ _ _ _ _ _ _ _ _ _ hL hI (lv_sub hl [3, 4, 5, 6, 2, 1, 0] rfl) (fun z0 H locs ls eo hI hl => ?_)
        subst eo
        refine lv_iload C.1 C.2.1 dX8_callOf_69 (lv_at hl 6 rfl) ?_
        refine lv_iload C.1 C.2.1 dX8_callOf_71 (lv_at hl 5 rfl) ?_
        obtain ⟨k_85, ek_85, hs⟩ := gv_ex hs
        have KJ_85 : ∀ (x2_j85 : Int32) (H : Heap) (locs : List Loc) (ls : Array Slot), k_85 x2_j85 = some o → MI D cy s s.heap H locs q I J A B → lv_has ls 7 [(0, .ref (q 46)), (1, .int x1), (2, .int x2_j85), (3, .int x3), (4, .int x4_24), (5, .int x5_35), (6, .int x6_40)] → W p l e (rmL 1) s m args below meth c H locs 0 0 Q (F0 m 85 ls []) := by
          intro x2_j85 H locs ls hs hI hl
          rw [ek_85] at hs
          refine lv_aload_n C.1 C.2.1 dX8_callOf_85 rfl (lv_at hl 0 rfl) ?_
          refine mg_1 C hI dX8_callOf_86 ?_
          refine lv_iload C.1 C.2.1 dX8_callOf_89 (lv_at hl 4 rfl) ?_
          obtain ⟨hk, hs⟩ := ck_e hs
          refine ma_1 C hI hk dX8_callOf_91 ?_
          refine lv_iconst (v := 1) C.1 C.2.1 dX8_callOf_92 (by decide) ?_
          refine lv_icmp_ne (tgt := 119) C.1 C.2.1 dX8_callOf_93 (by decide) (fun cn => ?_) (fun cn => ?_)
          · have hs := if_f cn hs
            obtain ⟨x3_119, ex3_119⟩ : ∃ y : Int32, y = (x3 + 1) := ⟨_, rfl⟩
            have hs := gv_at ex3_119 hs
            refine lv_iinc (v := x3_119) (lv' := [(3, .int x3_119), (0, .ref (q 46)), (1, .int x1), (2, .int x2_j85), (4, .int x4_24), (5, .int x5_35), (6, .int x6_40)]) C.1 C.2.1 dX8_callOf_119 hl (k := 3) rfl (by rw [ex3_119]; rfl) (by decide) rfl (fun ls hl => ?_)
            refine lv_goto (tgt := 4) C.1 C.2.1 dX8_callOf_122 (by decide) ?_
            exact ih _ _ _ _ _ _ _ _ _ _ _ _ hs hI (lv_sub hl [1, 2, 3, 0] rfl) kk0
          · have hs := if_t cn hs
            refine lv_iload C.1 C.2.1 dX8_callOf_96 (lv_at hl 5 rfl) ?_
            refine lv_iload C.1 C.2.1 dX8_callOf_98 (lv_at hl 6 rfl) ?_
            refine lv_isub C.1 C.2.1 dX8_callOf_100 ?_
            refine lv_aload_n C.1 C.2.1 dX8_callOf_101 rfl (lv_at hl 0 rfl) ?_
            refine lv_bipush (v := 8) C.1 C.2.1 dX8_callOf_102 (by decide) ?_
            obtain ⟨r_104, hc, hs⟩ := bd_e hs
            refine M_call C hI (kX8_term l D cy q _ _ _ _ _ _ hc) ml_X8_99 im_X8_term se_X8_term ini_X8 co_X8_term hyX8_term rfl ⟨by decide, by decide⟩ hl.1 rfl (Nat.le_of_ble_eq_true rfl) dX8_callOf_104 (fun H locs hI => ?_)
            refine lv_icmp_ge (tgt := 119) C.1 C.2.1 dX8_callOf_107 (by decide) (fun cn => ?_) (fun cn => ?_)
            · have hs := if_t cn hs
              obtain ⟨x3_119, ex3_119⟩ : ∃ y : Int32, y = (x3 + 1) := ⟨_, rfl⟩
              have hs := gv_at ex3_119 hs
              refine lv_iinc (v := x3_119) (lv' := [(3, .int x3_119), (0, .ref (q 46)), (1, .int x1), (2, .int x2_j85), (4, .int x4_24), (5, .int x5_35), (6, .int x6_40)]) C.1 C.2.1 dX8_callOf_119 hl (k := 3) rfl (by rw [ex3_119]; rfl) (by decide) rfl (fun ls hl => ?_)
              refine lv_goto (tgt := 4) C.1 C.2.1 dX8_callOf_122 (by decide) ?_
              exact ih _ _ _ _ _ _ _ _ _ _ _ _ hs hI (lv_sub hl [1, 2, 3, 0] rfl) kk0
            · have hs := if_f cn hs
              refine lv_iload_n C.1 C.2.1 dX8_callOf_110 rfl (lv_at hl 2 rfl) ?_
              refine lv_aload_n C.1 C.2.1 dX8_callOf_111 rfl (lv_at hl 0 rfl) ?_
              refine lv_bipush (v := 7) C.1 C.2.1 dX8_callOf_112 (by decide) ?_
              obtain ⟨r_114, hc, hs⟩ := bd_e hs
              refine M_call C hI (kX8_term l D cy q _ _ _ _ _ _ hc) ml_X8_99 im_X8_term se_X8_term ini_X8 co_X8_term hyX8_term rfl ⟨by decide, by decide⟩ hl.1 rfl (Nat.le_of_ble_eq_true rfl) dX8_callOf_114 (fun H locs hI => ?_)
              refine lv_iadd C.1 C.2.1 dX8_callOf_117 ?_
              refine lv_topi (fun x2_118 ex2_118 => ?_)
              have hs := gv_at ex2_118 hs
              refine lv_istore_n (lv' := [(2, .int x2_118), (0, .ref (q 46)), (1, .int x1), (3, .int x3), (4, .int x4_24), (5, .int x5_35), (6, .int x6_40)]) C.1 C.2.1 dX8_callOf_118 rfl hl (by decide) rfl (fun ls hl => ?_)
              obtain ⟨x3_119, ex3_119⟩ : ∃ y : Int32, y = (x3 + 1) := ⟨_, rfl⟩
              have hs := gv_at ex3_119 hs
              refine lv_iinc (v := x3_119) (lv' := [(3, .int x3_119), (2, .int x2_118), (0, .ref (q 46)), (1, .int x1), (4, .int x4_24), (5, .int x5_35), (6, .int x6_40)]) C.1 C.2.1 dX8_callOf_119 hl (k := 3) rfl (by rw [ex3_119]; rfl) (by decide) rfl (fun ls hl => ?_)
              refine lv_goto (tgt := 4) C.1 C.2.1 dX8_callOf_122 (by decide) ?_
              exact ih _ _ _ _ _ _ _ _ _ _ _ _ hs hI (lv_sub hl [2, 3, 1, 0] rfl) kk0
        refine lv_icmp_ge (tgt := 85) C.1 C.2.1 dX8_callOf_73 (by decide) (fun cn => ?_) (fun cn => ?_)
        · have hs := if_t cn hs
          exact KJ_85 _ _ _ _ hs hI (lv_sub hl [0, 1, 2, 3, 4, 5, 6] rfl)
        · have hs := if_f cn hs
          refine lv_iload_n C.1 C.2.1 dX8_callOf_76 rfl (lv_at hl 2 rfl) ?_
          refine lv_aload_n C.1 C.2.1 dX8_callOf_77 rfl (lv_at hl 0 rfl) ?_
          refine lv_bipush (v := 6) C.1 C.2.1 dX8_callOf_78 (by decide) ?_
          obtain ⟨r_80, hc, hs⟩ := bd_e hs
          refine M_call C hI (kX8_term l D cy q _ _ _ _ _ _ hc) ml_X8_99 im_X8_term se_X8_term ini_X8 co_X8_term hyX8_term rfl ⟨by decide, by decide⟩ hl.1 rfl (Nat.le_of_ble_eq_true rfl) dX8_callOf_80 (fun H locs hI => ?_)
          refine lv_iadd C.1 C.2.1 dX8_callOf_83 ?_
          refine lv_topi (fun x2_84 ex2_84 => ?_)
          have hs := gv_at ex2_84 hs
          refine lv_istore_n (lv' := [(2, .int x2_84), (0, .ref (q 46)), (1, .int x1), (3, .int x3), (4, .int x4_24), (5, .int x5_35), (6, .int x6_40)]) C.1 C.2.1 dX8_callOf_84 rfl hl (by decide) rfl (fun ls hl => ?_)
          exact KJ_85 _ _ _ _ hs hI (lv_sub hl [1, 2, 0, 3, 4, 5, 6] rfl)
  obtain ⟨x2_4, hL, hs⟩ := bd_e hs
  refine KL_4 FU _ _ _ _ _ _ _ _ _ _ _ _ hL hI (lv_sub hl [2, 3, 1, 0] rfl) (fun z0 H locs ls eo hI hl => ?_)
  subst eo
  refine lv_iload_n C.1 C.2.1 dX8_callOf_125 rfl (lv_at hl 0 rfl) ?_
  obtain rfl := Option.some.inj hs
  exact M_iret C hI dX8_callOf_126

def sX8_tower (x1 : Int32) (x2 : Int32) (x3 : Int32) (x4 : Int32) (x5 : Int32) (I : Nat → Int32) (J : Nat → Int64) (A : Nat → Nat → Int32) (B : Nat → Nat → Int64) : Option ((Int32) × (Nat → Int32) × (Nat → Nat → Int32)) :=
(sX8_in x1 (1 : Int32) (200 : Int32)).bind fun r_5 =>
if r_5 = 0 then
((sX8_refuses (-1 : Int32) I J A B).bind fun (r_55, I) =>
some (r_55, I, A))
else
(sX8_in x2 (0 : Int32) (100 : Int32)).bind fun r_15 =>
if r_15 = 0 then
((sX8_refuses (-1 : Int32) I J A B).bind fun (r_55, I) =>
some (r_55, I, A))
else
(sX8_in x3 (0 : Int32) (400 : Int32)).bind fun r_26 =>
if r_26 = 0 then
((sX8_refuses (-1 : Int32) I J A B).bind fun (r_55, I) =>
some (r_55, I, A))
else
(sX8_in x4 (0 : Int32) (10 : Int32)).bind fun r_37 =>
if r_37 = 0 then
((sX8_refuses (-1 : Int32) I J A B).bind fun (r_55, I) =>
some (r_55, I, A))
else
(sX8_in x5 (0 : Int32) (1 : Int32)).bind fun r_47 =>
if r_47 = 0 then
((sX8_refuses (-1 : Int32) I J A B).bind fun (r_55, I) =>
some (r_55, I, A))
else
gv (A 1 (ix (1638 : Int32))) fun x6_67 =>
if x6_67 = (12 : Int32) then
((sX8_refuses (-5 : Int32) I J A B).bind fun (r_79, I) =>
some (r_79, I, A))
else
gv ((1573 : Int32) + ((5 : Int32) * x6_67)) fun x7_91 =>
ck (inB x7_91 8047) <|
gv (va_up A 1 (upd (A 1) (ix x7_91) x1)) fun A =>
ck (inB (x7_91 + (1 : Int32)) 8047) <|
gv (va_up A 1 (upd (A 1) (ix (x7_91 + (1 : Int32))) x2)) fun A =>
ck (inB (x7_91 + (2 : Int32)) 8047) <|
gv (va_up A 1 (upd (A 1) (ix (x7_91 + (2 : Int32))) x3)) fun A =>
ck (inB (x7_91 + (3 : Int32)) 8047) <|
gv (va_up A 1 (upd (A 1) (ix (x7_91 + (3 : Int32))) x4)) fun A =>
ck (inB (x7_91 + (4 : Int32)) 8047) <|
gv (va_up A 1 (upd (A 1) (ix (x7_91 + (4 : Int32))) x5)) fun A =>
gv (va_up A 1 (upd (A 1) (ix (1638 : Int32)) ((A 1 (ix (1638 : Int32))) + (1 : Int32)))) fun A =>
(sX8_good x6_67 I J A B).bind fun (r_158, I) =>
some (r_158, I, A)
set_option maxRecDepth 100000 in
set_option maxHeartbeats 8000000 in
theorem kX8_tower (l : Launch) (D : va_G) (cy : Nat → ClassId) (q : Nat → Nat) (x1 : Int32) (x2 : Int32) (x3 : Int32) (x4 : Int32) (x5 : Int32) (I : Nat → Int32) (J : Nat → Int64) (A : Nat → Nat → Int32) (B : Nat → Nat → Int64) (r : Int32) (I2 : Nat → Int32) (A2 : Nat → Nat → Int32) (hs : sX8_tower x1 x2 x3 x4 x5 I J A B = some (r, I2, A2)) : McI l yX8_tower cX8_tower 8 (some .int) 1 [.ref (q 46), .int x1, .int x2, .int x3, .int x4, .int x5] D cy q I J A B (some (.int r)) I2 J A2 B := by
  refine M_start rfl rfl (Nat.le_of_ble_eq_true rfl) ?_
  intro p e s m args below meth c H locs C hI ls hl
  have hl : lv_has ls 8 [(0, .ref (q 46)), (1, .int x1), (2, .int x2), (3, .int x3), (4, .int x4), (5, .int x5)] := hl
  rw [sX8_tower] at hs
  refine lv_iload_n C.1 C.2.1 dX8_tower_0 rfl (lv_at hl 1 rfl) ?_
  refine lv_iconst (v := 1) C.1 C.2.1 dX8_tower_1 (by decide) ?_
  refine lv_sipush (v := 200) C.1 C.2.1 dX8_tower_2 (by decide) ?_
  obtain ⟨r_5, hc, hs⟩ := bd_e hs
  refine S_call (h := 1) C (kX8_in l _ _ _ _ hc) ml_X8_83 st_X8_in ini_X8 co_X8_in hyX8_in rfl ⟨by decide, by decide⟩ hl.1 rfl (Nat.le_of_ble_eq_true rfl) dX8_tower_5 ⟨Nat.le_refl 0, Nat.le_refl 0, Nat.le_refl _, Nat.le_refl _⟩ ?_
  refine lv_if_eq (tgt := 53) C.1 C.2.1 dX8_tower_8 (by decide) (fun cn => ?_) (fun cn => ?_)
  · have hs := if_t cn hs
    refine lv_aload_n C.1 C.2.1 dX8_tower_53 rfl (lv_at hl 0 rfl) ?_
    refine lv_iconst (v := -1) C.1 C.2.1 dX8_tower_54 (by decide) ?_
    obtain ⟨⟨r_55, I⟩, hc, hs⟩ := bd_e hs
    refine M_call C hI (kX8_refuses l D cy q _ _ _ _ _ _ _ hc) ml_X8_87 im_X8_refuses se_X8_refuses ini_X8 co_X8_refuses hyX8_refuses rfl ⟨by decide, by decide⟩ hl.1 rfl (Nat.le_of_ble_eq_true rfl) dX8_tower_55 (fun H locs hI => ?_)
    obtain ⟨rfl, rfl, rfl⟩ := so3 hs
    exact M_iret C hI dX8_tower_58
  · have hs := if_f cn hs
    refine lv_iload_n C.1 C.2.1 dX8_tower_11 rfl (lv_at hl 2 rfl) ?_
    refine lv_iconst (v := 0) C.1 C.2.1 dX8_tower_12 (by decide) ?_
    refine lv_bipush (v := 100) C.1 C.2.1 dX8_tower_13 (by decide) ?_
    obtain ⟨r_15, hc, hs⟩ := bd_e hs
    refine S_call (h := 1) C (kX8_in l _ _ _ _ hc) ml_X8_83 st_X8_in ini_X8 co_X8_in hyX8_in rfl ⟨by decide, by decide⟩ hl.1 rfl (Nat.le_of_ble_eq_true rfl) dX8_tower_15 ⟨Nat.le_refl 0, Nat.le_refl 0, Nat.le_refl _, Nat.le_refl _⟩ ?_
    refine lv_if_eq (tgt := 53) C.1 C.2.1 dX8_tower_18 (by decide) (fun cn => ?_) (fun cn => ?_)
    · have hs := if_t cn hs
      refine lv_aload_n C.1 C.2.1 dX8_tower_53 rfl (lv_at hl 0 rfl) ?_
      refine lv_iconst (v := -1) C.1 C.2.1 dX8_tower_54 (by decide) ?_
      obtain ⟨⟨r_55, I⟩, hc, hs⟩ := bd_e hs
      refine M_call C hI (kX8_refuses l D cy q _ _ _ _ _ _ _ hc) ml_X8_87 im_X8_refuses se_X8_refuses ini_X8 co_X8_refuses hyX8_refuses rfl ⟨by decide, by decide⟩ hl.1 rfl (Nat.le_of_ble_eq_true rfl) dX8_tower_55 (fun H locs hI => ?_)
      obtain ⟨rfl, rfl, rfl⟩ := so3 hs
      exact M_iret C hI dX8_tower_58
    · have hs := if_f cn hs
      refine lv_iload_n C.1 C.2.1 dX8_tower_21 rfl (lv_at hl 3 rfl) ?_
      refine lv_iconst (v := 0) C.1 C.2.1 dX8_tower_22 (by decide) ?_
      refine lv_sipush (v := 400) C.1 C.2.1 dX8_tower_23 (by decide) ?_
      obtain ⟨r_26, hc, hs⟩ := bd_e hs
      refine S_call (h := 1) C (kX8_in l _ _ _ _ hc) ml_X8_83 st_X8_in ini_X8 co_X8_in hyX8_in rfl ⟨by decide, by decide⟩ hl.1 rfl (Nat.le_of_ble_eq_true rfl) dX8_tower_26 ⟨Nat.le_refl 0, Nat.le_refl 0, Nat.le_refl _, Nat.le_refl _⟩ ?_
      refine lv_if_eq (tgt := 53) C.1 C.2.1 dX8_tower_29 (by decide) (fun cn => ?_) (fun cn => ?_)
      · have hs := if_t cn hs
        refine lv_aload_n C.1 C.2.1 dX8_tower_53 rfl (lv_at hl 0 rfl) ?_
        refine lv_iconst (v := -1) C.1 C.2.1 dX8_tower_54 (by decide) ?_
        obtain ⟨⟨r_55, I⟩, hc, hs⟩ := bd_e hs
        refine M_call C hI (kX8_refuses l D cy q _ _ _ _ _ _ _ hc) ml_X8_87 im_X8_refuses se_X8_refuses ini_X8 co_X8_refuses hyX8_refuses rfl ⟨by decide, by decide⟩ hl.1 rfl (Nat.le_of_ble_eq_true rfl) dX8_tower_55 (fun H locs hI => ?_)
        obtain ⟨rfl, rfl, rfl⟩ := so3 hs
        exact M_iret C hI dX8_tower_58
      · have hs := if_f cn hs
        refine lv_iload C.1 C.2.1 dX8_tower_32 (lv_at hl 4 rfl) ?_
        refine lv_iconst (v := 0) C.1 C.2.1 dX8_tower_34 (by decide) ?_
        refine lv_bipush (v := 10) C.1 C.2.1 dX8_tower_35 (by decide) ?_
        obtain ⟨r_37, hc, hs⟩ := bd_e hs
        refine S_call (h := 1) C (kX8_in l _ _ _ _ hc) ml_X8_83 st_X8_in ini_X8 co_X8_in hyX8_in rfl ⟨by decide, by decide⟩ hl.1 rfl (Nat.le_of_ble_eq_true rfl) dX8_tower_37 ⟨Nat.le_refl 0, Nat.le_refl 0, Nat.le_refl _, Nat.le_refl _⟩ ?_
        refine lv_if_eq (tgt := 53) C.1 C.2.1 dX8_tower_40 (by decide) (fun cn => ?_) (fun cn => ?_)
        · have hs := if_t cn hs
          refine lv_aload_n C.1 C.2.1 dX8_tower_53 rfl (lv_at hl 0 rfl) ?_
          refine lv_iconst (v := -1) C.1 C.2.1 dX8_tower_54 (by decide) ?_
          obtain ⟨⟨r_55, I⟩, hc, hs⟩ := bd_e hs
          refine M_call C hI (kX8_refuses l D cy q _ _ _ _ _ _ _ hc) ml_X8_87 im_X8_refuses se_X8_refuses ini_X8 co_X8_refuses hyX8_refuses rfl ⟨by decide, by decide⟩ hl.1 rfl (Nat.le_of_ble_eq_true rfl) dX8_tower_55 (fun H locs hI => ?_)
          obtain ⟨rfl, rfl, rfl⟩ := so3 hs
          exact M_iret C hI dX8_tower_58
        · have hs := if_f cn hs
          refine lv_iload C.1 C.2.1 dX8_tower_43 (lv_at hl 5 rfl) ?_
          refine lv_iconst (v := 0) C.1 C.2.1 dX8_tower_45 (by decide) ?_
          refine lv_iconst (v := 1) C.1 C.2.1 dX8_tower_46 (by decide) ?_
          obtain ⟨r_47, hc, hs⟩ := bd_e hs
          refine S_call (h := 1) C (kX8_in l _ _ _ _ hc) ml_X8_83 st_X8_in ini_X8 co_X8_in hyX8_in rfl ⟨by decide, by decide⟩ hl.1 rfl (Nat.le_of_ble_eq_true rfl) dX8_tower_47 ⟨Nat.le_refl 0, Nat.le_refl 0, Nat.le_refl _, Nat.le_refl _⟩ ?_
          refine lv_if_ne (tgt := 59) C.1 C.2.1 dX8_tower_50 (by decide) (fun cn => ?_) (fun cn => ?_)
          · have hs := if_f cn hs
            refine lv_aload_n C.1 C.2.1 dX8_tower_59 rfl (lv_at hl 0 rfl) ?_
            refine mg_1 C hI dX8_tower_60 ?_
            refine lv_sipush (v := 1638) C.1 C.2.1 dX8_tower_63 (by decide) ?_
            refine ma_1 C hI (by decide) dX8_tower_66 ?_
            refine lv_topi (fun x6_67 ex6_67 => ?_)
            have hs := gv_at ex6_67 hs
            refine lv_istore (lv' := [(6, .int x6_67), (0, .ref (q 46)), (1, .int x1), (2, .int x2), (3, .int x3), (4, .int x4), (5, .int x5)]) C.1 C.2.1 dX8_tower_67 hl (by decide) rfl (fun ls hl => ?_)
            refine lv_iload C.1 C.2.1 dX8_tower_69 (lv_at hl 0 rfl) ?_
            refine lv_bipush (v := 12) C.1 C.2.1 dX8_tower_71 (by decide) ?_
            refine lv_icmp_ne (tgt := 83) C.1 C.2.1 dX8_tower_73 (by decide) (fun cn => ?_) (fun cn => ?_)
            · have hs := if_f cn hs
              refine lv_sipush (v := 1573) C.1 C.2.1 dX8_tower_83 (by decide) ?_
              refine lv_iconst (v := 5) C.1 C.2.1 dX8_tower_86 (by decide) ?_
              refine lv_iload C.1 C.2.1 dX8_tower_87 (lv_at hl 0 rfl) ?_
              refine lv_imul C.1 C.2.1 dX8_tower_89 ?_
              refine lv_iadd C.1 C.2.1 dX8_tower_90 ?_
              refine lv_topi (fun x7_91 ex7_91 => ?_)
              have hs := gv_at ex7_91 hs
              refine lv_istore (lv' := [(7, .int x7_91), (6, .int x6_67), (0, .ref (q 46)), (1, .int x1), (2, .int x2), (3, .int x3), (4, .int x4), (5, .int x5)]) C.1 C.2.1 dX8_tower_91 hl (by decide) rfl (fun ls hl => ?_)
              refine lv_aload_n C.1 C.2.1 dX8_tower_93 rfl (lv_at hl 2 rfl) ?_
              refine mg_1 C hI dX8_tower_94 ?_
              refine lv_iload C.1 C.2.1 dX8_tower_97 (lv_at hl 0 rfl) ?_
              refine lv_iload_n C.1 C.2.1 dX8_tower_99 rfl (lv_at hl 3 rfl) ?_
              obtain ⟨hk, hs⟩ := ck_e hs
              refine ms_1 C hI hk dX8_tower_100 (fun H locs hI => ?_)
              have hs := gv_be hs
              refine lv_aload_n C.1 C.2.1 dX8_tower_101 rfl (lv_at hl 2 rfl) ?_
              refine mg_1 C hI dX8_tower_102 ?_
              refine lv_iload C.1 C.2.1 dX8_tower_105 (lv_at hl 0 rfl) ?_
              refine lv_iconst (v := 1) C.1 C.2.1 dX8_tower_107 (by decide) ?_
              refine lv_iadd C.1 C.2.1 dX8_tower_108 ?_
              refine lv_iload_n C.1 C.2.1 dX8_tower_109 rfl (lv_at hl 4 rfl) ?_
              obtain ⟨hk, hs⟩ := ck_e hs
              refine ms_1 C hI hk dX8_tower_110 (fun H locs hI => ?_)
              have hs := gv_be hs
              refine lv_aload_n C.1 C.2.1 dX8_tower_111 rfl (lv_at hl 2 rfl) ?_
              refine mg_1 C hI dX8_tower_112 ?_
              refine lv_iload C.1 C.2.1 dX8_tower_115 (lv_at hl 0 rfl) ?_
              refine lv_iconst (v := 2) C.1 C.2.1 dX8_tower_117 (by decide) ?_
              refine lv_iadd C.1 C.2.1 dX8_tower_118 ?_
              refine lv_iload_n C.1 C.2.1 dX8_tower_119 rfl (lv_at hl 5 rfl) ?_
              obtain ⟨hk, hs⟩ := ck_e hs
              refine ms_1 C hI hk dX8_tower_120 (fun H locs hI => ?_)
              have hs := gv_be hs
              refine lv_aload_n C.1 C.2.1 dX8_tower_121 rfl (lv_at hl 2 rfl) ?_
              refine mg_1 C hI dX8_tower_122 ?_
              refine lv_iload C.1 C.2.1 dX8_tower_125 (lv_at hl 0 rfl) ?_
              refine lv_iconst (v := 3) C.1 C.2.1 dX8_tower_127 (by decide) ?_
              refine lv_iadd C.1 C.2.1 dX8_tower_128 ?_
              refine lv_iload C.1 C.2.1 dX8_tower_129 (lv_at hl 6 rfl) ?_
              obtain ⟨hk, hs⟩ := ck_e hs
              refine ms_1 C hI hk dX8_tower_131 (fun H locs hI => ?_)
              have hs := gv_be hs
              refine lv_aload_n C.1 C.2.1 dX8_tower_132 rfl (lv_at hl 2 rfl) ?_
              refine mg_1 C hI dX8_tower_133 ?_
              refine lv_iload C.1 C.2.1 dX8_tower_136 (lv_at hl 0 rfl) ?_
              refine lv_iconst (v := 4) C.1 C.2.1 dX8_tower_138 (by decide) ?_
              refine lv_iadd C.1 C.2.1 dX8_tower_139 ?_
              refine lv_iload C.1 C.2.1 dX8_tower_140 (lv_at hl 7 rfl) ?_
              obtain ⟨hk, hs⟩ := ck_e hs
              refine ms_1 C hI hk dX8_tower_142 (fun H locs hI => ?_)
              have hs := gv_be hs
              refine lv_aload_n C.1 C.2.1 dX8_tower_143 rfl (lv_at hl 2 rfl) ?_
              refine mg_1 C hI dX8_tower_144 ?_
              refine lv_sipush (v := 1638) C.1 C.2.1 dX8_tower_147 (by decide) ?_
              refine lv_dup2_11 C.1 C.2.1 dX8_tower_150 rfl rfl ?_
              refine ma_1 C hI (by decide) dX8_tower_151 ?_
              refine lv_iconst (v := 1) C.1 C.2.1 dX8_tower_152 (by decide) ?_
              refine lv_iadd C.1 C.2.1 dX8_tower_153 ?_
              refine ms_1 C hI (by decide) dX8_tower_154 (fun H locs hI => ?_)
              have hs := gv_be hs
              refine lv_aload_n C.1 C.2.1 dX8_tower_155 rfl (lv_at hl 2 rfl) ?_
              refine lv_iload C.1 C.2.1 dX8_tower_156 (lv_at hl 1 rfl) ?_
              obtain ⟨⟨r_158, I⟩, hc, hs⟩ := bd_e hs
              refine M_call C hI (kX8_good l D cy q _ _ _ _ _ _ _ hc) ml_X8_91 im_X8_good se_X8_good ini_X8 co_X8_good hyX8_good rfl ⟨by decide, by decide⟩ hl.1 rfl (Nat.le_of_ble_eq_true rfl) dX8_tower_158 (fun H locs hI => ?_)
              obtain ⟨rfl, rfl, rfl⟩ := so3 hs
              exact M_iret C hI dX8_tower_161
            · have hs := if_t cn hs
              refine lv_aload_n C.1 C.2.1 dX8_tower_76 rfl (lv_at hl 1 rfl) ?_
              refine lv_bipush (v := -5) C.1 C.2.1 dX8_tower_77 (by decide) ?_
              obtain ⟨⟨r_79, I⟩, hc, hs⟩ := bd_e hs
              refine M_call C hI (kX8_refuses l D cy q _ _ _ _ _ _ _ hc) ml_X8_87 im_X8_refuses se_X8_refuses ini_X8 co_X8_refuses hyX8_refuses rfl ⟨by decide, by decide⟩ hl.1 rfl (Nat.le_of_ble_eq_true rfl) dX8_tower_79 (fun H locs hI => ?_)
              obtain ⟨rfl, rfl, rfl⟩ := so3 hs
              exact M_iret C hI dX8_tower_82
          · have hs := if_t cn hs
            refine lv_aload_n C.1 C.2.1 dX8_tower_53 rfl (lv_at hl 0 rfl) ?_
            refine lv_iconst (v := -1) C.1 C.2.1 dX8_tower_54 (by decide) ?_
            obtain ⟨⟨r_55, I⟩, hc, hs⟩ := bd_e hs
            refine M_call C hI (kX8_refuses l D cy q _ _ _ _ _ _ _ hc) ml_X8_87 im_X8_refuses se_X8_refuses ini_X8 co_X8_refuses hyX8_refuses rfl ⟨by decide, by decide⟩ hl.1 rfl (Nat.le_of_ble_eq_true rfl) dX8_tower_55 (fun H locs hI => ?_)
            obtain ⟨rfl, rfl, rfl⟩ := so3 hs
            exact M_iret C hI dX8_tower_58

def sX8_stiff (x1 : Int32) (x2 : Int32) (I : Nat → Int32) (J : Nat → Int64) (A : Nat → Nat → Int32) (B : Nat → Nat → Int64) : Option ((Int32) × (Nat → Int32) × (Nat → Nat → Int32)) :=
(sX8_isJoint x1).bind fun r_1 =>
if r_1 = 0 then
((sX8_refuses (-1 : Int32) I J A B).bind fun (r_19, I) =>
some (r_19, I, A))
else
(sX8_in x2 (1 : Int32) (9 : Int32)).bind fun r_11 =>
if r_11 = 0 then
((sX8_refuses (-1 : Int32) I J A B).bind fun (r_19, I) =>
some (r_19, I, A))
else
ck (inB ((0 : Int32) + x1) 8047) <|
gv (A 1 (ix ((0 : Int32) + x1))) fun x3_31 =>
ck (inB ((0 : Int32) + x1) 8047) <|
gv (va_up A 1 (upd (A 1) (ix ((0 : Int32) + x1)) x2)) fun A =>
(sX8_good x3_31 I J A B).bind fun (r_43, I) =>
some (r_43, I, A)
set_option maxRecDepth 100000 in
set_option maxHeartbeats 8000000 in
theorem kX8_stiff (l : Launch) (D : va_G) (cy : Nat → ClassId) (q : Nat → Nat) (x1 : Int32) (x2 : Int32) (I : Nat → Int32) (J : Nat → Int64) (A : Nat → Nat → Int32) (B : Nat → Nat → Int64) (r : Int32) (I2 : Nat → Int32) (A2 : Nat → Nat → Int32) (hs : sX8_stiff x1 x2 I J A B = some (r, I2, A2)) : McI l yX8_stiff cX8_stiff 4 (some .int) 2 [.ref (q 46), .int x1, .int x2] D cy q I J A B (some (.int r)) I2 J A2 B := by
  refine M_start rfl rfl (Nat.le_of_ble_eq_true rfl) ?_
  intro p e s m args below meth c H locs C hI ls hl
  have hl : lv_has ls 4 [(0, .ref (q 46)), (1, .int x1), (2, .int x2)] := hl
  rw [sX8_stiff] at hs
  refine lv_iload_n C.1 C.2.1 dX8_stiff_0 rfl (lv_at hl 1 rfl) ?_
  obtain ⟨r_1, hc, hs⟩ := bd_e hs
  refine S_call (h := 2) C (kX8_isJoint l _ _ hc) ml_X8_94 st_X8_isJoint ini_X8 co_X8_isJoint hyX8_isJoint rfl ⟨by decide, by decide⟩ hl.1 rfl (Nat.le_of_ble_eq_true rfl) dX8_stiff_1 ⟨Nat.le_refl 0, Nat.le_refl 0, Nat.le_refl _, Nat.le_refl _⟩ ?_
  refine lv_if_eq (tgt := 17) C.1 C.2.1 dX8_stiff_4 (by decide) (fun cn => ?_) (fun cn => ?_)
  · have hs := if_t cn hs
    refine lv_aload_n C.1 C.2.1 dX8_stiff_17 rfl (lv_at hl 0 rfl) ?_
    refine lv_iconst (v := -1) C.1 C.2.1 dX8_stiff_18 (by decide) ?_
    obtain ⟨⟨r_19, I⟩, hc, hs⟩ := bd_e hs
    refine M_call C hI (kX8_refuses l D cy q _ _ _ _ _ _ _ hc) ml_X8_87 im_X8_refuses se_X8_refuses ini_X8 co_X8_refuses hyX8_refuses rfl ⟨by decide, by decide⟩ hl.1 rfl (Nat.le_of_ble_eq_true rfl) dX8_stiff_19 (fun H locs hI => ?_)
    obtain ⟨rfl, rfl, rfl⟩ := so3 hs
    exact M_iret C hI dX8_stiff_22
  · have hs := if_f cn hs
    refine lv_iload_n C.1 C.2.1 dX8_stiff_7 rfl (lv_at hl 2 rfl) ?_
    refine lv_iconst (v := 1) C.1 C.2.1 dX8_stiff_8 (by decide) ?_
    refine lv_bipush (v := 9) C.1 C.2.1 dX8_stiff_9 (by decide) ?_
    obtain ⟨r_11, hc, hs⟩ := bd_e hs
    refine S_call (h := 2) C (kX8_in l _ _ _ _ hc) ml_X8_83 st_X8_in ini_X8 co_X8_in hyX8_in rfl ⟨by decide, by decide⟩ hl.1 rfl (Nat.le_of_ble_eq_true rfl) dX8_stiff_11 ⟨Nat.le_refl 0, Nat.le_refl 0, Nat.le_refl _, Nat.le_refl _⟩ ?_
    refine lv_if_ne (tgt := 23) C.1 C.2.1 dX8_stiff_14 (by decide) (fun cn => ?_) (fun cn => ?_)
    · have hs := if_f cn hs
      refine lv_aload_n C.1 C.2.1 dX8_stiff_23 rfl (lv_at hl 0 rfl) ?_
      refine mg_1 C hI dX8_stiff_24 ?_
      refine lv_iconst (v := 0) C.1 C.2.1 dX8_stiff_27 (by decide) ?_
      refine lv_iload_n C.1 C.2.1 dX8_stiff_28 rfl (lv_at hl 1 rfl) ?_
      refine lv_iadd C.1 C.2.1 dX8_stiff_29 ?_
      obtain ⟨hk, hs⟩ := ck_e hs
      refine ma_1 C hI hk dX8_stiff_30 ?_
      refine lv_topi (fun x3_31 ex3_31 => ?_)
      have hs := gv_at ex3_31 hs
      refine lv_istore_n (lv' := [(3, .int x3_31), (0, .ref (q 46)), (1, .int x1), (2, .int x2)]) C.1 C.2.1 dX8_stiff_31 rfl hl (by decide) rfl (fun ls hl => ?_)
      refine lv_aload_n C.1 C.2.1 dX8_stiff_32 rfl (lv_at hl 1 rfl) ?_
      refine mg_1 C hI dX8_stiff_33 ?_
      refine lv_iconst (v := 0) C.1 C.2.1 dX8_stiff_36 (by decide) ?_
      refine lv_iload_n C.1 C.2.1 dX8_stiff_37 rfl (lv_at hl 2 rfl) ?_
      refine lv_iadd C.1 C.2.1 dX8_stiff_38 ?_
      refine lv_iload_n C.1 C.2.1 dX8_stiff_39 rfl (lv_at hl 3 rfl) ?_
      obtain ⟨hk, hs⟩ := ck_e hs
      refine ms_1 C hI hk dX8_stiff_40 (fun H locs hI => ?_)
      have hs := gv_be hs
      refine lv_aload_n C.1 C.2.1 dX8_stiff_41 rfl (lv_at hl 1 rfl) ?_
      refine lv_iload_n C.1 C.2.1 dX8_stiff_42 rfl (lv_at hl 0 rfl) ?_
      obtain ⟨⟨r_43, I⟩, hc, hs⟩ := bd_e hs
      refine M_call C hI (kX8_good l D cy q _ _ _ _ _ _ _ hc) ml_X8_91 im_X8_good se_X8_good ini_X8 co_X8_good hyX8_good rfl ⟨by decide, by decide⟩ hl.1 rfl (Nat.le_of_ble_eq_true rfl) dX8_stiff_43 (fun H locs hI => ?_)
      obtain ⟨rfl, rfl, rfl⟩ := so3 hs
      exact M_iret C hI dX8_stiff_46
    · have hs := if_t cn hs
      refine lv_aload_n C.1 C.2.1 dX8_stiff_17 rfl (lv_at hl 0 rfl) ?_
      refine lv_iconst (v := -1) C.1 C.2.1 dX8_stiff_18 (by decide) ?_
      obtain ⟨⟨r_19, I⟩, hc, hs⟩ := bd_e hs
      refine M_call C hI (kX8_refuses l D cy q _ _ _ _ _ _ _ hc) ml_X8_87 im_X8_refuses se_X8_refuses ini_X8 co_X8_refuses hyX8_refuses rfl ⟨by decide, by decide⟩ hl.1 rfl (Nat.le_of_ble_eq_true rfl) dX8_stiff_19 (fun H locs hI => ?_)
      obtain ⟨rfl, rfl, rfl⟩ := so3 hs
      exact M_iret C hI dX8_stiff_22

def sX8_plate (x1 : Int32) (x2 : Int32) (I : Nat → Int32) (J : Nat → Int64) (A : Nat → Nat → Int32) (B : Nat → Nat → Int64) : Option ((Int32) × (Nat → Int32) × (Nat → Nat → Int32)) :=
(sX8_isJoint x1).bind fun r_1 =>
if r_1 = 0 then
((sX8_refuses (-1 : Int32) I J A B).bind fun (r_18, I) =>
some (r_18, I, A))
else
(sX8_in x2 (0 : Int32) (4 : Int32)).bind fun r_10 =>
if r_10 = 0 then
((sX8_refuses (-1 : Int32) I J A B).bind fun (r_18, I) =>
some (r_18, I, A))
else
ck (inB ((48 : Int32) + x1) 8047) <|
if (A 1 (ix ((48 : Int32) + x1))) = 0 then
((sX8_refuses (-3 : Int32) I J A B).bind fun (r_37, I) =>
some (r_37, I, A))
else
ck (inB ((96 : Int32) + x1) 8047) <|
gv (A 1 (ix ((96 : Int32) + x1))) fun x3_50 =>
ck (inB ((96 : Int32) + x1) 8047) <|
gv (va_up A 1 (upd (A 1) (ix ((96 : Int32) + x1)) x2)) fun A =>
(sX8_good x3_50 I J A B).bind fun (r_63, I) =>
some (r_63, I, A)
set_option maxRecDepth 100000 in
set_option maxHeartbeats 8000000 in
theorem kX8_plate (l : Launch) (D : va_G) (cy : Nat → ClassId) (q : Nat → Nat) (x1 : Int32) (x2 : Int32) (I : Nat → Int32) (J : Nat → Int64) (A : Nat → Nat → Int32) (B : Nat → Nat → Int64) (r : Int32) (I2 : Nat → Int32) (A2 : Nat → Nat → Int32) (hs : sX8_plate x1 x2 I J A B = some (r, I2, A2)) : McI l yX8_plate cX8_plate 4 (some .int) 2 [.ref (q 46), .int x1, .int x2] D cy q I J A B (some (.int r)) I2 J A2 B := by
  refine M_start rfl rfl (Nat.le_of_ble_eq_true rfl) ?_
  intro p e s m args below meth c H locs C hI ls hl
  have hl : lv_has ls 4 [(0, .ref (q 46)), (1, .int x1), (2, .int x2)] := hl
  rw [sX8_plate] at hs
  refine lv_iload_n C.1 C.2.1 dX8_plate_0 rfl (lv_at hl 1 rfl) ?_
  obtain ⟨r_1, hc, hs⟩ := bd_e hs
  refine S_call (h := 2) C (kX8_isJoint l _ _ hc) ml_X8_94 st_X8_isJoint ini_X8 co_X8_isJoint hyX8_isJoint rfl ⟨by decide, by decide⟩ hl.1 rfl (Nat.le_of_ble_eq_true rfl) dX8_plate_1 ⟨Nat.le_refl 0, Nat.le_refl 0, Nat.le_refl _, Nat.le_refl _⟩ ?_
  refine lv_if_eq (tgt := 16) C.1 C.2.1 dX8_plate_4 (by decide) (fun cn => ?_) (fun cn => ?_)
  · have hs := if_t cn hs
    refine lv_aload_n C.1 C.2.1 dX8_plate_16 rfl (lv_at hl 0 rfl) ?_
    refine lv_iconst (v := -1) C.1 C.2.1 dX8_plate_17 (by decide) ?_
    obtain ⟨⟨r_18, I⟩, hc, hs⟩ := bd_e hs
    refine M_call C hI (kX8_refuses l D cy q _ _ _ _ _ _ _ hc) ml_X8_87 im_X8_refuses se_X8_refuses ini_X8 co_X8_refuses hyX8_refuses rfl ⟨by decide, by decide⟩ hl.1 rfl (Nat.le_of_ble_eq_true rfl) dX8_plate_18 (fun H locs hI => ?_)
    obtain ⟨rfl, rfl, rfl⟩ := so3 hs
    exact M_iret C hI dX8_plate_21
  · have hs := if_f cn hs
    refine lv_iload_n C.1 C.2.1 dX8_plate_7 rfl (lv_at hl 2 rfl) ?_
    refine lv_iconst (v := 0) C.1 C.2.1 dX8_plate_8 (by decide) ?_
    refine lv_iconst (v := 4) C.1 C.2.1 dX8_plate_9 (by decide) ?_
    obtain ⟨r_10, hc, hs⟩ := bd_e hs
    refine S_call (h := 2) C (kX8_in l _ _ _ _ hc) ml_X8_83 st_X8_in ini_X8 co_X8_in hyX8_in rfl ⟨by decide, by decide⟩ hl.1 rfl (Nat.le_of_ble_eq_true rfl) dX8_plate_10 ⟨Nat.le_refl 0, Nat.le_refl 0, Nat.le_refl _, Nat.le_refl _⟩ ?_
    refine lv_if_ne (tgt := 22) C.1 C.2.1 dX8_plate_13 (by decide) (fun cn => ?_) (fun cn => ?_)
    · have hs := if_f cn hs
      refine lv_aload_n C.1 C.2.1 dX8_plate_22 rfl (lv_at hl 0 rfl) ?_
      refine mg_1 C hI dX8_plate_23 ?_
      refine lv_bipush (v := 48) C.1 C.2.1 dX8_plate_26 (by decide) ?_
      refine lv_iload_n C.1 C.2.1 dX8_plate_28 rfl (lv_at hl 1 rfl) ?_
      refine lv_iadd C.1 C.2.1 dX8_plate_29 ?_
      obtain ⟨hk, hs⟩ := ck_e hs
      refine ma_1 C hI hk dX8_plate_30 ?_
      refine lv_if_ne (tgt := 41) C.1 C.2.1 dX8_plate_31 (by decide) (fun cn => ?_) (fun cn => ?_)
      · have hs := if_f cn hs
        refine lv_aload_n C.1 C.2.1 dX8_plate_41 rfl (lv_at hl 0 rfl) ?_
        refine mg_1 C hI dX8_plate_42 ?_
        refine lv_bipush (v := 96) C.1 C.2.1 dX8_plate_45 (by decide) ?_
        refine lv_iload_n C.1 C.2.1 dX8_plate_47 rfl (lv_at hl 1 rfl) ?_
        refine lv_iadd C.1 C.2.1 dX8_plate_48 ?_
        obtain ⟨hk, hs⟩ := ck_e hs
        refine ma_1 C hI hk dX8_plate_49 ?_
        refine lv_topi (fun x3_50 ex3_50 => ?_)
        have hs := gv_at ex3_50 hs
        refine lv_istore_n (lv' := [(3, .int x3_50), (0, .ref (q 46)), (1, .int x1), (2, .int x2)]) C.1 C.2.1 dX8_plate_50 rfl hl (by decide) rfl (fun ls hl => ?_)
        refine lv_aload_n C.1 C.2.1 dX8_plate_51 rfl (lv_at hl 1 rfl) ?_
        refine mg_1 C hI dX8_plate_52 ?_
        refine lv_bipush (v := 96) C.1 C.2.1 dX8_plate_55 (by decide) ?_
        refine lv_iload_n C.1 C.2.1 dX8_plate_57 rfl (lv_at hl 2 rfl) ?_
        refine lv_iadd C.1 C.2.1 dX8_plate_58 ?_
        refine lv_iload_n C.1 C.2.1 dX8_plate_59 rfl (lv_at hl 3 rfl) ?_
        obtain ⟨hk, hs⟩ := ck_e hs
        refine ms_1 C hI hk dX8_plate_60 (fun H locs hI => ?_)
        have hs := gv_be hs
        refine lv_aload_n C.1 C.2.1 dX8_plate_61 rfl (lv_at hl 1 rfl) ?_
        refine lv_iload_n C.1 C.2.1 dX8_plate_62 rfl (lv_at hl 0 rfl) ?_
        obtain ⟨⟨r_63, I⟩, hc, hs⟩ := bd_e hs
        refine M_call C hI (kX8_good l D cy q _ _ _ _ _ _ _ hc) ml_X8_91 im_X8_good se_X8_good ini_X8 co_X8_good hyX8_good rfl ⟨by decide, by decide⟩ hl.1 rfl (Nat.le_of_ble_eq_true rfl) dX8_plate_63 (fun H locs hI => ?_)
        obtain ⟨rfl, rfl, rfl⟩ := so3 hs
        exact M_iret C hI dX8_plate_66
      · have hs := if_t cn hs
        refine lv_aload_n C.1 C.2.1 dX8_plate_34 rfl (lv_at hl 0 rfl) ?_
        refine lv_bipush (v := -3) C.1 C.2.1 dX8_plate_35 (by decide) ?_
        obtain ⟨⟨r_37, I⟩, hc, hs⟩ := bd_e hs
        refine M_call C hI (kX8_refuses l D cy q _ _ _ _ _ _ _ hc) ml_X8_87 im_X8_refuses se_X8_refuses ini_X8 co_X8_refuses hyX8_refuses rfl ⟨by decide, by decide⟩ hl.1 rfl (Nat.le_of_ble_eq_true rfl) dX8_plate_37 (fun H locs hI => ?_)
        obtain ⟨rfl, rfl, rfl⟩ := so3 hs
        exact M_iret C hI dX8_plate_40
    · have hs := if_t cn hs
      refine lv_aload_n C.1 C.2.1 dX8_plate_16 rfl (lv_at hl 0 rfl) ?_
      refine lv_iconst (v := -1) C.1 C.2.1 dX8_plate_17 (by decide) ?_
      obtain ⟨⟨r_18, I⟩, hc, hs⟩ := bd_e hs
      refine M_call C hI (kX8_refuses l D cy q _ _ _ _ _ _ _ hc) ml_X8_87 im_X8_refuses se_X8_refuses ini_X8 co_X8_refuses hyX8_refuses rfl ⟨by decide, by decide⟩ hl.1 rfl (Nat.le_of_ble_eq_true rfl) dX8_plate_18 (fun H locs hI => ?_)
      obtain ⟨rfl, rfl, rfl⟩ := so3 hs
      exact M_iret C hI dX8_plate_21

def sX8_joint (x1 : Int32) (x2 : Int32) (I : Nat → Int32) (J : Nat → Int64) (A : Nat → Nat → Int32) (B : Nat → Nat → Int64) : Option ((Int32)) :=
(sX8_isJoint x1).bind fun r_1 =>
if r_1 = 0 then
(some (-1 : Int32))
else
(sX8_in x2 (0 : Int32) (3 : Int32)).bind fun r_10 =>
if r_10 = 0 then
(some (-1 : Int32))
else
if x2 = 0 then
(ck (inB ((48 : Int32) + x1) 8047) <|
some (A 1 (ix ((48 : Int32) + x1))))
else
if x2 = (1 : Int32) then
(ck (inB ((96 : Int32) + x1) 8047) <|
some (A 1 (ix ((96 : Int32) + x1))))
else
if x2 = (2 : Int32) then
((sX8_holdsOf x1 I J A B).bind fun r_58 =>
some r_58)
else
ck (inB ((0 : Int32) + x1) 8047) <|
some (A 1 (ix ((0 : Int32) + x1)))
set_option maxRecDepth 100000 in
set_option maxHeartbeats 8000000 in
theorem kX8_joint (l : Launch) (D : va_G) (cy : Nat → ClassId) (q : Nat → Nat) (x1 : Int32) (x2 : Int32) (I : Nat → Int32) (J : Nat → Int64) (A : Nat → Nat → Int32) (B : Nat → Nat → Int64) (r : Int32) (hs : sX8_joint x1 x2 I J A B = some r) : McI l yX8_joint cX8_joint 3 (some .int) 2 [.ref (q 46), .int x1, .int x2] D cy q I J A B (some (.int r)) I J A B := by
  refine M_start rfl rfl (Nat.le_of_ble_eq_true rfl) ?_
  intro p e s m args below meth c H locs C hI ls hl
  have hl : lv_has ls 3 [(0, .ref (q 46)), (1, .int x1), (2, .int x2)] := hl
  rw [sX8_joint] at hs
  refine lv_iload_n C.1 C.2.1 dX8_joint_0 rfl (lv_at hl 1 rfl) ?_
  obtain ⟨r_1, hc, hs⟩ := bd_e hs
  refine S_call (h := 2) C (kX8_isJoint l _ _ hc) ml_X8_94 st_X8_isJoint ini_X8 co_X8_isJoint hyX8_isJoint rfl ⟨by decide, by decide⟩ hl.1 rfl (Nat.le_of_ble_eq_true rfl) dX8_joint_1 ⟨Nat.le_refl 0, Nat.le_refl 0, Nat.le_refl _, Nat.le_refl _⟩ ?_
  refine lv_if_eq (tgt := 16) C.1 C.2.1 dX8_joint_4 (by decide) (fun cn => ?_) (fun cn => ?_)
  · have hs := if_t cn hs
    refine lv_iconst (v := -1) C.1 C.2.1 dX8_joint_16 (by decide) ?_
    obtain rfl := Option.some.inj hs
    exact M_iret C hI dX8_joint_17
  · have hs := if_f cn hs
    refine lv_iload_n C.1 C.2.1 dX8_joint_7 rfl (lv_at hl 2 rfl) ?_
    refine lv_iconst (v := 0) C.1 C.2.1 dX8_joint_8 (by decide) ?_
    refine lv_iconst (v := 3) C.1 C.2.1 dX8_joint_9 (by decide) ?_
    obtain ⟨r_10, hc, hs⟩ := bd_e hs
    refine S_call (h := 2) C (kX8_in l _ _ _ _ hc) ml_X8_83 st_X8_in ini_X8 co_X8_in hyX8_in rfl ⟨by decide, by decide⟩ hl.1 rfl (Nat.le_of_ble_eq_true rfl) dX8_joint_10 ⟨Nat.le_refl 0, Nat.le_refl 0, Nat.le_refl _, Nat.le_refl _⟩ ?_
    refine lv_if_ne (tgt := 18) C.1 C.2.1 dX8_joint_13 (by decide) (fun cn => ?_) (fun cn => ?_)
    · have hs := if_f cn hs
      refine lv_iload_n C.1 C.2.1 dX8_joint_18 rfl (lv_at hl 2 rfl) ?_
      refine lv_if_ne (tgt := 34) C.1 C.2.1 dX8_joint_19 (by decide) (fun cn => ?_) (fun cn => ?_)
      · have hs := if_f cn hs
        refine lv_iload_n C.1 C.2.1 dX8_joint_34 rfl (lv_at hl 2 rfl) ?_
        refine lv_iconst (v := 1) C.1 C.2.1 dX8_joint_35 (by decide) ?_
        refine lv_icmp_ne (tgt := 51) C.1 C.2.1 dX8_joint_36 (by decide) (fun cn => ?_) (fun cn => ?_)
        · have hs := if_f cn hs
          refine lv_iload_n C.1 C.2.1 dX8_joint_51 rfl (lv_at hl 2 rfl) ?_
          refine lv_iconst (v := 2) C.1 C.2.1 dX8_joint_52 (by decide) ?_
          refine lv_icmp_ne (tgt := 64) C.1 C.2.1 dX8_joint_53 (by decide) (fun cn => ?_) (fun cn => ?_)
          · have hs := if_f cn hs
            refine lv_aload_n C.1 C.2.1 dX8_joint_64 rfl (lv_at hl 0 rfl) ?_
            refine mg_1 C hI dX8_joint_65 ?_
            refine lv_iconst (v := 0) C.1 C.2.1 dX8_joint_68 (by decide) ?_
            refine lv_iload_n C.1 C.2.1 dX8_joint_69 rfl (lv_at hl 1 rfl) ?_
            refine lv_iadd C.1 C.2.1 dX8_joint_70 ?_
            obtain ⟨hk, hs⟩ := ck_e hs
            refine ma_1 C hI hk dX8_joint_71 ?_
            obtain rfl := Option.some.inj hs
            exact M_iret C hI dX8_joint_72
          · have hs := if_t cn hs
            refine lv_aload_n C.1 C.2.1 dX8_joint_56 rfl (lv_at hl 0 rfl) ?_
            refine lv_iload_n C.1 C.2.1 dX8_joint_57 rfl (lv_at hl 1 rfl) ?_
            obtain ⟨r_58, hc, hs⟩ := bd_e hs
            refine M_call C hI (kX8_holdsOf l D cy q _ _ _ _ _ _ hc) ml_X8_103 im_X8_holdsOf se_X8_holdsOf ini_X8 co_X8_holdsOf hyX8_holdsOf rfl ⟨by decide, by decide⟩ hl.1 rfl (Nat.le_of_ble_eq_true rfl) dX8_joint_58 (fun H locs hI => ?_)
            refine lv_goto (tgt := 72) C.1 C.2.1 dX8_joint_61 (by decide) ?_
            obtain rfl := Option.some.inj hs
            exact M_iret C hI dX8_joint_72
        · have hs := if_t cn hs
          refine lv_aload_n C.1 C.2.1 dX8_joint_39 rfl (lv_at hl 0 rfl) ?_
          refine mg_1 C hI dX8_joint_40 ?_
          refine lv_bipush (v := 96) C.1 C.2.1 dX8_joint_43 (by decide) ?_
          refine lv_iload_n C.1 C.2.1 dX8_joint_45 rfl (lv_at hl 1 rfl) ?_
          refine lv_iadd C.1 C.2.1 dX8_joint_46 ?_
          obtain ⟨hk, hs⟩ := ck_e hs
          refine ma_1 C hI hk dX8_joint_47 ?_
          refine lv_goto (tgt := 72) C.1 C.2.1 dX8_joint_48 (by decide) ?_
          obtain rfl := Option.some.inj hs
          exact M_iret C hI dX8_joint_72
      · have hs := if_t cn hs
        refine lv_aload_n C.1 C.2.1 dX8_joint_22 rfl (lv_at hl 0 rfl) ?_
        refine mg_1 C hI dX8_joint_23 ?_
        refine lv_bipush (v := 48) C.1 C.2.1 dX8_joint_26 (by decide) ?_
        refine lv_iload_n C.1 C.2.1 dX8_joint_28 rfl (lv_at hl 1 rfl) ?_
        refine lv_iadd C.1 C.2.1 dX8_joint_29 ?_
        obtain ⟨hk, hs⟩ := ck_e hs
        refine ma_1 C hI hk dX8_joint_30 ?_
        refine lv_goto (tgt := 72) C.1 C.2.1 dX8_joint_31 (by decide) ?_
        obtain rfl := Option.some.inj hs
        exact M_iret C hI dX8_joint_72
    · have hs := if_t cn hs
      refine lv_iconst (v := -1) C.1 C.2.1 dX8_joint_16 (by decide) ?_
      obtain rfl := Option.some.inj hs
      exact M_iret C hI dX8_joint_17

def lX8_lays_9 : Nat → Int32 → Int32 → Int32 → Int64 → Int64 → Int32 → (Nat → Int32) → (Nat → Int64) → (Nat → Nat → Int32) → (Nat → Nat → Int64) → Option (Int64 × Int64)
  | 0, _, _, _, _, _, _, _, _, _, _ => none
  | n + 1, x1, x2, x3, x4, x6, x8, I, J, A, B =>
    if (6 : Int32) ≤ x8 then
    (some (x4, x6))
    else
    (sX8_windOf x1 (1 : Int32) I J A B).bind fun r_21 =>
    ck (inB ((144 : Int32) + x8) 8047) <|
    gv (x4 + ((r_21.toInt64) * (((A 1 (ix ((144 : Int32) + x8)))).toInt64))) fun x4_39 =>
    (sX8_windOf x1 (1 : Int32) I J A B).bind fun r_46 =>
    ck (inB ((144 : Int32) + x8) 8047) <|
    gv (x6 + (((r_46.toInt64) * (((A 1 (ix ((144 : Int32) + x8)))).toInt64)) * ((((x8 - x3) + (1 : Int32))).toInt64))) fun x6_72 =>
    gv (x8 + 1) fun x8_74 =>
    lX8_lays_9 n x1 x2 x3 x4_39 x6_72 x8_74 I J A B
def lX8_lays_217 : Nat → Int32 → Int64 → Int64 → Int32 → Int32 → (Nat → Int32) → (Nat → Int64) → (Nat → Nat → Int32) → (Nat → Nat → Int64) → Option ((Nat → Nat → Int64))
  | 0, _, _, _, _, _, _, _, _, _ => none
  | n + 1, x3, x9, x11, x15, x16, I, J, A, B =>
    if (2 : Int32) ≤ x16 then
    (some B)
    else
    ck (inB x15 4) <|
    ck (inB ((((8 : Int32) * x3) + ((2 : Int32) * x15)) + x16) 48) <|
    if (A 4 (ix ((((8 : Int32) * x3) + ((2 : Int32) * x15)) + x16))) = 0 then
    (ck (inB ((((0 : Int32) + ((8 : Int32) * x3)) + ((2 : Int32) * x15)) + x16) 8047) <|
    ck (inB x15 4) <|
    gv (va_up B 5 (vp_updL (B 5) (ix x15) ((B 5 (ix x15)) + (((A 1 (ix ((((0 : Int32) + ((8 : Int32) * x3)) + ((2 : Int32) * x15)) + x16)))).toInt64)))) fun B =>
    gv (x16 + 1) fun x16_277 =>
    lX8_lays_217 n x3 x9 x11 x15 x16_277 I J A B)
    else
    ck (inB x15 4) <|
    gv (va_up B 5 (vp_updL (B 5) (ix x15) ((B 5 (ix x15)) + (0 : Int64)))) fun B =>
    gv (x16 + 1) fun x16_277 =>
    lX8_lays_217 n x3 x9 x11 x15 x16_277 I J A B
def lX8_lays_200 : Nat → Int32 → Int64 → Int64 → Int32 → (Nat → Int32) → (Nat → Int64) → (Nat → Nat → Int32) → (Nat → Nat → Int64) → Option ((Nat → Nat → Int64))
  | 0, _, _, _, _, _, _, _, _ => none
  | n + 1, x3, x9, x11, x15, I, J, A, B =>
    if (4 : Int32) ≤ x15 then
    (some B)
    else
    ck (inB x15 4) <|
    gv (va_up B 5 (vp_updL (B 5) (ix x15) (0 : Int64))) fun B =>
    (lX8_lays_217 FU x3 x9 x11 x15 (0 : Int32) I J A B).bind fun B =>
    gv (x15 + 1) fun x15_283 =>
    lX8_lays_200 n x3 x9 x11 x15_283 I J A B
def sX8_lays (x1 : Int32) (x2 : Int32) (x3 : Int32) (I : Nat → Int32) (J : Nat → Int64) (A : Nat → Nat → Int32) (B : Nat → Nat → Int64) : Option ((Int32) × (Nat → Int64) × (Nat → Nat → Int64)) :=
(lX8_lays_9 FU x1 x2 x3 (0 : Int64) (0 : Int64) x3 I J A B).bind fun (x4_9, x6_9) =>
gv (fun (y0_j98 : Int32) (J : Nat → Int64) (B : Nat → Nat → Int64) =>
(sX8_windOf x1 (0 : Int32) I J A B).bind fun r_105 =>
(sX8_eastOf r_105).bind fun r_108 =>
gv ((x4_9 * (r_108.toInt64)) * (y0_j98.toInt64)) fun x9_117 =>
(sX8_windOf x1 (0 : Int32) I J A B).bind fun r_124 =>
(sX8_northOf r_124).bind fun r_127 =>
gv ((x4_9 * (r_127.toInt64)) * (y0_j98.toInt64)) fun x11_136 =>
(sX8_term (2 : Int32) I J A B).bind fun r_146 =>
(sX8_term (3 : Int32) I J A B).bind fun r_155 =>
gv (((x6_9 * (y0_j98.toInt64)) * (r_146.toInt64)) * ((((10 : Int32) - r_155)).toInt64)) fun x13_161 =>
(sX8_windOf x1 (0 : Int32) I J A B).bind fun r_169 =>
(sX8_eastOf r_169).bind fun r_172 =>
gv (vp_updL J 11 (x13_161 * (r_172.toInt64))) fun J =>
(sX8_windOf x1 (0 : Int32) I J A B).bind fun r_186 =>
(sX8_northOf r_186).bind fun r_189 =>
gv (vp_updL J 10 (x13_161 * (r_189.toInt64))) fun J =>
(lX8_lays_200 FU x3 x9_117 x11_136 (0 : Int32) I J A B).bind fun B =>
gv ((B 5 (ix (0 : Int32))) + (B 5 (ix (2 : Int32)))) fun x15_302 =>
gv ((B 5 (ix (1 : Int32))) + (B 5 (ix (3 : Int32)))) fun x17_317 =>
gv ((B 5 (ix (2 : Int32))) - (B 5 (ix (0 : Int32)))) fun x19_332 =>
gv ((B 5 (ix (1 : Int32))) - (B 5 (ix (3 : Int32)))) fun x21_347 =>
gv (vp_updL J 7 ((((x15_302 * x17_317) * (x15_302 + x17_317)) - ((x15_302 * x21_347) * x21_347)) - ((x17_317 * x19_332) * x19_332))) fun J =>
if (lg_cmp (J 7) (0 : Int64)) = 0 then
(some ((0 : Int32), J, B))
else
gv ((x9_117 * ((x17_317 * (x15_302 + x17_317)) - (x21_347 * x21_347))) + ((x19_332 * x21_347) * x11_136)) fun x23_419 =>
gv ((x11_136 * ((x15_302 * (x15_302 + x17_317)) - (x19_332 * x19_332))) + ((x19_332 * x21_347) * x9_117)) fun x25_447 =>
gv (-(((x15_302 * x21_347) * x11_136) + ((x17_317 * x19_332) * x9_117))) fun x27_467 =>
gv (va_up B 6 (vp_updL (B 6) (ix (0 : Int32)) (x23_419 - x27_467))) fun B =>
gv (va_up B 6 (vp_updL (B 6) (ix (1 : Int32)) (x25_447 + x27_467))) fun B =>
gv (va_up B 6 (vp_updL (B 6) (ix (2 : Int32)) (x23_419 + x27_467))) fun B =>
gv (va_up B 6 (vp_updL (B 6) (ix (3 : Int32)) (x25_447 - x27_467))) fun B =>
gv (fun (J : Nat → Int64) (B : Nat → Nat → Int64) =>
if (lg_cmp (J 11) (0 : Int64)) = 0 then
(some ((1 : Int32), J, B))
else
if (lg_cmp (B 5 (ix (1 : Int32))) (0 : Int64)) = 0 then
(some ((0 : Int32), J, B))
else
if (lg_cmp (B 5 (ix (3 : Int32))) (0 : Int64)) = 0 then
(some ((0 : Int32), J, B))
else
some ((1 : Int32), J, B)) fun k_544 =>
if (lg_cmp (J 10) (0 : Int64)) = 0 then
(k_544 J B)
else
if (lg_cmp (B 5 (ix (0 : Int32))) (0 : Int64)) = 0 then
(some ((0 : Int32), J, B))
else
if (lg_cmp (B 5 (ix (2 : Int32))) (0 : Int64)) = 0 then
(some ((0 : Int32), J, B))
else
k_544 J B) fun k_98 =>
if x2 = (1 : Int32) then
((sX8_term (4 : Int32) I J A B).bind fun r_89 =>
k_98 ((100 : Int32) - r_89) J B)
else
k_98 (100 : Int32) J B
set_option maxRecDepth 100000 in
set_option maxHeartbeats 8000000 in
theorem kX8_lays (l : Launch) (D : va_G) (cy : Nat → ClassId) (q : Nat → Nat) (x1 : Int32) (x2 : Int32) (x3 : Int32) (I : Nat → Int32) (J : Nat → Int64) (A : Nat → Nat → Int32) (B : Nat → Nat → Int64) (r : Int32) (J2 : Nat → Int64) (B2 : Nat → Nat → Int64) (hs : sX8_lays x1 x2 x3 I J A B = some (r, J2, B2)) : McI l yX8_lays cX8_lays 29 (some .boolean) 2 [.ref (q 46), .int x1, .int x2, .int x3] D cy q I J A B (some (.int r)) I J2 A B2 := by
  refine M_start rfl rfl (Nat.le_of_ble_eq_true rfl) ?_
  intro p e s m args below meth c H locs C hI ls hl
  have hl : lv_has ls 29 [(0, .ref (q 46)), (1, .int x1), (2, .int x2), (3, .int x3)] := hl
  rw [sX8_lays] at hs
  refine lv_lconst (v := 0) C.1 C.2.1 dX8_lays_0 (by decide) ?_
  refine lv_lstore (lv' := [(4, .long (0 : Int64)), (0, .ref (q 46)), (1, .int x1), (2, .int x2), (3, .int x3)]) C.1 C.2.1 dX8_lays_1 hl (by decide) rfl (fun ls hl => ?_)
  refine lv_lconst (v := 0) C.1 C.2.1 dX8_lays_3 (by decide) ?_
  refine lv_lstore (lv' := [(6, .long (0 : Int64)), (4, .long (0 : Int64)), (0, .ref (q 46)), (1, .int x1), (2, .int x2), (3, .int x3)]) C.1 C.2.1 dX8_lays_4 hl (by decide) rfl (fun ls hl => ?_)
  refine lv_iload_n C.1 C.2.1 dX8_lays_6 rfl (lv_at hl 5 rfl) ?_
  refine lv_istore (lv' := [(8, .int x3), (6, .long (0 : Int64)), (4, .long (0 : Int64)), (0, .ref (q 46)), (1, .int x1), (2, .int x2), (3, .int x3)]) C.1 C.2.1 dX8_lays_7 hl (by decide) rfl (fun ls hl => ?_)
  have KL_9 : ∀ (n : Nat) (x1 : Int32) (x2 : Int32) (x3 : Int32) (x4 : Int64) (x6 : Int64) (x8 : Int32) (I : Nat → Int32) (J : Nat → Int64) (A : Nat → Nat → Int32) (B : Nat → Nat → Int64) (o : Int64 × Int64) (Q : State → Prop) (H : Heap) (locs : List Loc) (ls : Array Slot), lX8_lays_9 n x1 x2 x3 x4 x6 x8 I J A B = some o → MI D cy s s.heap H locs q I J A B → lv_has ls 29 [(0, .ref (q 46)), (1, .int x1), (2, .int x2), (3, .int x3), (4, .long x4), (6, .long x6), (8, .int x8)] → (∀ (o4_0 : Int64) (o6_0 : Int64) (H : Heap) (locs : List Loc) (ls : Array Slot), o = (o4_0, o6_0) → MI D cy s s.heap H locs q I J A B → lv_has ls 29 [(0, .ref (q 46)), (1, .int x1), (2, .int x2), (3, .int x3), (4, .long o4_0), (6, .long o6_0)] → W p l e (rmL 2) s m args below meth c H locs 0 0 Q (F0 m 80 ls [])) → W p l e (rmL 2) s m args below meth c H locs 0 0 Q (F0 m 9 ls []) := by
    intro n; induction n with
    | zero => intro x1 x2 x3 x4 x6 x8 I J A B o Q H locs ls hs; rw [lX8_lays_9] at hs; cases hs
    | succ n ih =>
      intro x1 x2 x3 x4 x6 x8 I J A B o Q H locs ls hs hI hl kk0
      rw [lX8_lays_9] at hs
      refine lv_iload C.1 C.2.1 dX8_lays_9 (lv_at hl 6 rfl) ?_
      refine lv_bipush (v := 6) C.1 C.2.1 dX8_lays_11 (by decide) ?_
      refine lv_icmp_ge (tgt := 80) C.1 C.2.1 dX8_lays_13 (by decide) (fun cn => ?_) (fun cn => ?_)
      · have hs := if_t cn hs
        have eo := (Option.some.inj hs).symm
        exact kk0 _ _ _ _ _ eo hI (lv_sub hl [0, 1, 2, 3, 4, 5] rfl)
      · have hs := if_f cn hs
        refine lv_lload C.1 C.2.1 dX8_lays_16 (lv_at hl 4 rfl) ?_
        refine lv_aload_n C.1 C.2.1 dX8_lays_18 rfl (lv_at hl 0 rfl) ?_
        refine lv_iload_n C.1 C.2.1 dX8_lays_19 rfl (lv_at hl 1 rfl) ?_
        refine lv_iconst (v := 1) C.1 C.2.1 dX8_lays_20 (by decide) ?_
        obtain ⟨r_21, hc, hs⟩ := bd_e hs
        refine M_call C hI (kX8_windOf l D cy q _ _ _ _ _ _ _ hc) ml_X8_109 im_X8_windOf se_X8_windOf ini_X8 co_X8_windOf hyX8_windOf rfl ⟨by decide, by decide⟩ hl.1 rfl (Nat.le_of_ble_eq_true rfl) dX8_lays_21 (fun H locs hI => ?_)
        refine lv_i2l C.1 C.2.1 dX8_lays_24 rfl ?_
        refine lv_aload_n C.1 C.2.1 dX8_lays_25 rfl (lv_at hl 0 rfl) ?_
        refine mg_1 C hI dX8_lays_26 ?_
        refine lv_sipush (v := 144) C.1 C.2.1 dX8_lays_29 (by decide) ?_
        refine lv_iload C.1 C.2.1 dX8_lays_32 (lv_at hl 6 rfl) ?_
        refine lv_iadd C.1 C.2.1 dX8_lays_34 ?_
        obtain ⟨hk, hs⟩ := ck_e hs
        refine ma_1 C hI hk dX8_lays_35 ?_
        refine lv_i2l C.1 C.2.1 dX8_lays_36 rfl ?_
        refine lv_lmul C.1 C.2.1 dX8_lays_37 ?_
        refine lv_ladd C.1 C.2.1 dX8_lays_38 ?_
        refine lv_topl (fun x4_39 ex4_39 => ?_)
        have hs := gv_at ex4_39 hs
        refine lv_lstore (lv' := [(4, .long x4_39), (0, .ref (q 46)), (1, .int x1), (2, .int x2), (3, .int x3), (6, .long x6), (8, .int x8)]) C.1 C.2.1 dX8_lays_39 hl (by decide) rfl (fun ls hl => ?_)
        refine lv_lload C.1 C.2.1 dX8_lays_41 (lv_at hl 5 rfl) ?_
        refine lv_aload_n C.1 C.2.1 dX8_lays_43 rfl (lv_at hl 1 rfl) ?_
        refine lv_iload_n C.1 C.2.1 dX8_lays_44 rfl (lv_at hl 2 rfl) ?_
        refine lv_iconst (v := 1) C.1 C.2.1 dX8_lays_45 (by decide) ?_
        obtain ⟨r_46, hc, hs⟩ := bd_e hs
        refine M_call C hI (kX8_windOf l D cy q _ _ _ _ _ _ _ hc) ml_X8_109 im_X8_windOf se_X8_windOf ini_X8 co_X8_windOf hyX8_windOf rfl ⟨by decide, by decide⟩ hl.1 rfl (Nat.le_of_ble_eq_true rfl) dX8_lays_46 (fun H locs hI => ?_)
        refine lv_i2l C.1 C.2.1 dX8_lays_49 rfl ?_
        refine lv_aload_n C.1 C.2.1 dX8_lays_50 rfl (lv_at hl 1 rfl) ?_
        refine mg_1 C hI dX8_lays_51 ?_
        refine lv_sipush (v := 144) C.1 C.2.1 dX8_lays_54 (by decide) ?_
        refine lv_iload C.1 C.2.1 dX8_lays_57 (lv_at hl 6 rfl) ?_
        refine lv_iadd C.1 C.2.1 dX8_lays_59 ?_
        obtain ⟨hk, hs⟩ := ck_e hs
        refine ma_1 C hI hk dX8_lays_60 ?_
        refine lv_i2l C.1 C.2.1 dX8_lays_61 rfl ?_
        refine lv_lmul C.1 C.2.1 dX8_lays_62 ?_
        refine lv_iload C.1 C.2.1 dX8_lays_63 (lv_at hl 6 rfl) ?_
        refine lv_iload_n C.1 C.2.1 dX8_lays_65 rfl (lv_at hl 4 rfl) ?_
        refine lv_isub C.1 C.2.1 dX8_lays_66 ?_
        refine lv_iconst (v := 1) C.1 C.2.1 dX8_lays_67 (by decide) ?_
        refine lv_iadd C.1 C.2.1 dX8_lays_68 ?_
        refine lv_i2l C.1 C.2.1 dX8_lays_69 rfl ?_
        refine lv_lmul C.1 C.2.1 dX8_lays_70 ?_
        refine lv_ladd C.1 C.2.1 dX8_lays_71 ?_
        refine lv_topl (fun x6_72 ex6_72 => ?_)
        have hs := gv_at ex6_72 hs
        refine lv_lstore (lv' := [(6, .long x6_72), (4, .long x4_39), (0, .ref (q 46)), (1, .int x1), (2, .int x2), (3, .int x3), (8, .int x8)]) C.1 C.2.1 dX8_lays_72 hl (by decide) rfl (fun ls hl => ?_)
        obtain ⟨x8_74, ex8_74⟩ : ∃ y : Int32, y = (x8 + 1) := ⟨_, rfl⟩
        have hs := gv_at ex8_74 hs
        refine lv_iinc (v := x8_74) (lv' := [(8, .int x8_74), (6, .long x6_72), (4, .long x4_39), (0, .ref (q 46)), (1, .int x1), (2, .int x2), (3, .int x3)]) C.1 C.2.1 dX8_lays_74 hl (k := 6) rfl (by rw [ex8_74]; rfl) (by decide) rfl (fun ls hl => ?_)
        refine lv_goto (tgt := 9) C.1 C.2.1 dX8_lays_77 (by decide) ?_
        exact ih _ _ _ _ _ _ _ _ _ _ _ _ _ _ _ hs hI (lv_sub hl [3, 4, 5, 6, 2, 1, 0] rfl) kk0
  obtain ⟨⟨x4_9, x6_9⟩, hL, hs⟩ := bd_e hs
  refine KL_9 FU _ _ _ _ _ _ _ _ _ _ _ _ _ _ _ hL hI (lv_sub hl [3, 4, 5, 6, 2, 1, 0] rfl) (fun z0 z1 H locs ls eo hI hl => ?_)
  obtain ⟨rfl, rfl⟩ := pr2 eo
  refine lv_iload_n C.1 C.2.1 dX8_lays_80 rfl (lv_at hl 2 rfl) ?_
  refine lv_iconst (v := 1) C.1 C.2.1 dX8_lays_81 (by decide) ?_
  obtain ⟨k_98, ek_98, hs⟩ := gv_ex hs
  have KJ_98 : ∀ (y0_j98 : Int32) (J : Nat → Int64) (B : Nat → Nat → Int64) (H : Heap) (locs : List Loc) (ls : Array Slot), k_98 y0_j98 J B = some (r, J2, B2) → MI D cy s s.heap H locs q I J A B → lv_has ls 29 [(0, .ref (q 46)), (1, .int x1), (3, .int x3), (4, .long x4_9), (6, .long x6_9)] → W p l e (rmL 2) s m args below meth c H locs 0 0 (MQ below (mQ D cy q (some (.int r)) I J2 A B2) args s 0 0 (MA q)) (F0 m 98 ls [.int y0_j98]) := by
    intro y0_j98 J B H locs ls hs hI hl
    rw [ek_98] at hs
    refine lv_istore (lv' := [(8, .int y0_j98), (0, .ref (q 46)), (1, .int x1), (3, .int x3), (4, .long x4_9), (6, .long x6_9)]) C.1 C.2.1 dX8_lays_98 hl (by decide) rfl (fun ls hl => ?_)
    refine lv_lload C.1 C.2.1 dX8_lays_100 (lv_at hl 4 rfl) ?_
    refine lv_aload_n C.1 C.2.1 dX8_lays_102 rfl (lv_at hl 1 rfl) ?_
    refine lv_iload_n C.1 C.2.1 dX8_lays_103 rfl (lv_at hl 2 rfl) ?_
    refine lv_iconst (v := 0) C.1 C.2.1 dX8_lays_104 (by decide) ?_
    obtain ⟨r_105, hc, hs⟩ := bd_e hs
    refine M_call C hI (kX8_windOf l D cy q _ _ _ _ _ _ _ hc) ml_X8_109 im_X8_windOf se_X8_windOf ini_X8 co_X8_windOf hyX8_windOf rfl ⟨by decide, by decide⟩ hl.1 rfl (Nat.le_of_ble_eq_true rfl) dX8_lays_105 (fun H locs hI => ?_)
    obtain ⟨r_108, hc, hs⟩ := bd_e hs
    refine S_call (h := 2) C (kX8_eastOf l _ _ hc) ml_X8_106 st_X8_eastOf ini_X8 co_X8_eastOf hyX8_eastOf rfl ⟨by decide, by decide⟩ hl.1 rfl (Nat.le_of_ble_eq_true rfl) dX8_lays_108 ⟨Nat.le_refl 0, Nat.le_refl 0, Nat.le_refl _, Nat.le_refl _⟩ ?_
    refine lv_i2l C.1 C.2.1 dX8_lays_111 rfl ?_
    refine lv_lmul C.1 C.2.1 dX8_lays_112 ?_
    refine lv_iload C.1 C.2.1 dX8_lays_113 (lv_at hl 0 rfl) ?_
    refine lv_i2l C.1 C.2.1 dX8_lays_115 rfl ?_
    refine lv_lmul C.1 C.2.1 dX8_lays_116 ?_
    refine lv_topl (fun x9_117 ex9_117 => ?_)
    have hs := gv_at ex9_117 hs
    refine lv_lstore (lv' := [(9, .long x9_117), (8, .int y0_j98), (0, .ref (q 46)), (1, .int x1), (3, .int x3), (4, .long x4_9), (6, .long x6_9)]) C.1 C.2.1 dX8_lays_117 hl (by decide) rfl (fun ls hl => ?_)
    refine lv_lload C.1 C.2.1 dX8_lays_119 (lv_at hl 5 rfl) ?_
    refine lv_aload_n C.1 C.2.1 dX8_lays_121 rfl (lv_at hl 2 rfl) ?_
    refine lv_iload_n C.1 C.2.1 dX8_lays_122 rfl (lv_at hl 3 rfl) ?_
    refine lv_iconst (v := 0) C.1 C.2.1 dX8_lays_123 (by decide) ?_
    obtain ⟨r_124, hc, hs⟩ := bd_e hs
    refine M_call C hI (kX8_windOf l D cy q _ _ _ _ _ _ _ hc) ml_X8_109 im_X8_windOf se_X8_windOf ini_X8 co_X8_windOf hyX8_windOf rfl ⟨by decide, by decide⟩ hl.1 rfl (Nat.le_of_ble_eq_true rfl) dX8_lays_124 (fun H locs hI => ?_)
    obtain ⟨r_127, hc, hs⟩ := bd_e hs
    refine S_call (h := 2) C (kX8_northOf l _ _ hc) ml_X8_113 st_X8_northOf ini_X8 co_X8_northOf hyX8_northOf rfl ⟨by decide, by decide⟩ hl.1 rfl (Nat.le_of_ble_eq_true rfl) dX8_lays_127 ⟨Nat.le_refl 0, Nat.le_refl 0, Nat.le_refl _, Nat.le_refl _⟩ ?_
    refine lv_i2l C.1 C.2.1 dX8_lays_130 rfl ?_
    refine lv_lmul C.1 C.2.1 dX8_lays_131 ?_
    refine lv_iload C.1 C.2.1 dX8_lays_132 (lv_at hl 1 rfl) ?_
    refine lv_i2l C.1 C.2.1 dX8_lays_134 rfl ?_
    refine lv_lmul C.1 C.2.1 dX8_lays_135 ?_
    refine lv_topl (fun x11_136 ex11_136 => ?_)
    have hs := gv_at ex11_136 hs
    refine lv_lstore (lv' := [(11, .long x11_136), (9, .long x9_117), (8, .int y0_j98), (0, .ref (q 46)), (1, .int x1), (3, .int x3), (4, .long x4_9), (6, .long x6_9)]) C.1 C.2.1 dX8_lays_136 hl (by decide) rfl (fun ls hl => ?_)
    refine lv_lload C.1 C.2.1 dX8_lays_138 (lv_at hl 7 rfl) ?_
    refine lv_iload C.1 C.2.1 dX8_lays_140 (lv_at hl 2 rfl) ?_
    refine lv_i2l C.1 C.2.1 dX8_lays_142 rfl ?_
    refine lv_lmul C.1 C.2.1 dX8_lays_143 ?_
    refine lv_aload_n C.1 C.2.1 dX8_lays_144 rfl (lv_at hl 3 rfl) ?_
    refine lv_iconst (v := 2) C.1 C.2.1 dX8_lays_145 (by decide) ?_
    obtain ⟨r_146, hc, hs⟩ := bd_e hs
    refine M_call C hI (kX8_term l D cy q _ _ _ _ _ _ hc) ml_X8_99 im_X8_term se_X8_term ini_X8 co_X8_term hyX8_term rfl ⟨by decide, by decide⟩ hl.1 rfl (Nat.le_of_ble_eq_true rfl) dX8_lays_146 (fun H locs hI => ?_)
    refine lv_i2l C.1 C.2.1 dX8_lays_149 rfl ?_
    refine lv_lmul C.1 C.2.1 dX8_lays_150 ?_
    refine lv_bipush (v := 10) C.1 C.2.1 dX8_lays_151 (by decide) ?_
    refine lv_aload_n C.1 C.2.1 dX8_lays_153 rfl (lv_at hl 3 rfl) ?_
    refine lv_iconst (v := 3) C.1 C.2.1 dX8_lays_154 (by decide) ?_
    obtain ⟨r_155, hc, hs⟩ := bd_e hs
    refine M_call C hI (kX8_term l D cy q _ _ _ _ _ _ hc) ml_X8_99 im_X8_term se_X8_term ini_X8 co_X8_term hyX8_term rfl ⟨by decide, by decide⟩ hl.1 rfl (Nat.le_of_ble_eq_true rfl) dX8_lays_155 (fun H locs hI => ?_)
    refine lv_isub C.1 C.2.1 dX8_lays_158 ?_
    refine lv_i2l C.1 C.2.1 dX8_lays_159 rfl ?_
    refine lv_lmul C.1 C.2.1 dX8_lays_160 ?_
    refine lv_topl (fun x13_161 ex13_161 => ?_)
    have hs := gv_at ex13_161 hs
    refine lv_lstore (lv' := [(13, .long x13_161), (11, .long x11_136), (9, .long x9_117), (8, .int y0_j98), (0, .ref (q 46)), (1, .int x1), (3, .int x3), (4, .long x4_9), (6, .long x6_9)]) C.1 C.2.1 dX8_lays_161 hl (by decide) rfl (fun ls hl => ?_)
    refine lv_aload_n C.1 C.2.1 dX8_lays_163 rfl (lv_at hl 4 rfl) ?_
    refine lv_lload C.1 C.2.1 dX8_lays_164 (lv_at hl 0 rfl) ?_
    refine lv_aload_n C.1 C.2.1 dX8_lays_166 rfl (lv_at hl 4 rfl) ?_
    refine lv_iload_n C.1 C.2.1 dX8_lays_167 rfl (lv_at hl 5 rfl) ?_
    refine lv_iconst (v := 0) C.1 C.2.1 dX8_lays_168 (by decide) ?_
    obtain ⟨r_169, hc, hs⟩ := bd_e hs
    refine M_call C hI (kX8_windOf l D cy q _ _ _ _ _ _ _ hc) ml_X8_109 im_X8_windOf se_X8_windOf ini_X8 co_X8_windOf hyX8_windOf rfl ⟨by decide, by decide⟩ hl.1 rfl (Nat.le_of_ble_eq_true rfl) dX8_lays_169 (fun H locs hI => ?_)
    obtain ⟨r_172, hc, hs⟩ := bd_e hs
    refine S_call (h := 2) C (kX8_eastOf l _ _ hc) ml_X8_106 st_X8_eastOf ini_X8 co_X8_eastOf hyX8_eastOf rfl ⟨by decide, by decide⟩ hl.1 rfl (Nat.le_of_ble_eq_true rfl) dX8_lays_172 ⟨Nat.le_refl 0, Nat.le_refl 0, Nat.le_refl _, Nat.le_refl _⟩ ?_
    refine lv_i2l C.1 C.2.1 dX8_lays_175 rfl ?_
    refine lv_lmul C.1 C.2.1 dX8_lays_176 ?_
    refine mp_11 C hI dX8_lays_177 (fun H locs hI => ?_)
    have hs := gv_be hs
    refine lv_aload_n C.1 C.2.1 dX8_lays_180 rfl (lv_at hl 4 rfl) ?_
    refine lv_lload C.1 C.2.1 dX8_lays_181 (lv_at hl 0 rfl) ?_
    refine lv_aload_n C.1 C.2.1 dX8_lays_183 rfl (lv_at hl 4 rfl) ?_
    refine lv_iload_n C.1 C.2.1 dX8_lays_184 rfl (lv_at hl 5 rfl) ?_
    refine lv_iconst (v := 0) C.1 C.2.1 dX8_lays_185 (by decide) ?_
    obtain ⟨r_186, hc, hs⟩ := bd_e hs
    refine M_call C hI (kX8_windOf l D cy q _ _ _ _ _ _ _ hc) ml_X8_109 im_X8_windOf se_X8_windOf ini_X8 co_X8_windOf hyX8_windOf rfl ⟨by decide, by decide⟩ hl.1 rfl (Nat.le_of_ble_eq_true rfl) dX8_lays_186 (fun H locs hI => ?_)
    obtain ⟨r_189, hc, hs⟩ := bd_e hs
    refine S_call (h := 2) C (kX8_northOf l _ _ hc) ml_X8_113 st_X8_northOf ini_X8 co_X8_northOf hyX8_northOf rfl ⟨by decide, by decide⟩ hl.1 rfl (Nat.le_of_ble_eq_true rfl) dX8_lays_189 ⟨Nat.le_refl 0, Nat.le_refl 0, Nat.le_refl _, Nat.le_refl _⟩ ?_
    refine lv_i2l C.1 C.2.1 dX8_lays_192 rfl ?_
    refine lv_lmul C.1 C.2.1 dX8_lays_193 ?_
    refine mp_10 C hI dX8_lays_194 (fun H locs hI => ?_)
    have hs := gv_be hs
    refine lv_iconst (v := 0) C.1 C.2.1 dX8_lays_197 (by decide) ?_
    refine lv_istore (lv' := [(15, .int (0 : Int32)), (13, .long x13_161), (11, .long x11_136), (9, .long x9_117), (8, .int y0_j98), (0, .ref (q 46)), (1, .int x1), (3, .int x3), (4, .long x4_9), (6, .long x6_9)]) C.1 C.2.1 dX8_lays_198 hl (by decide) rfl (fun ls hl => ?_)
    have KL_200 : ∀ (n : Nat) (x3 : Int32) (x9 : Int64) (x11 : Int64) (x15 : Int32) (I : Nat → Int32) (J : Nat → Int64) (A : Nat → Nat → Int32) (B : Nat → Nat → Int64) (o : (Nat → Nat → Int64)) (Q : State → Prop) (H : Heap) (locs : List Loc) (ls : Array Slot), lX8_lays_200 n x3 x9 x11 x15 I J A B = some o → MI D cy s s.heap H locs q I J A B → lv_has ls 29 [(0, .ref (q 46)), (3, .int x3), (9, .long x9), (11, .long x11), (15, .int x15)] → (∀ (B_0 : Nat → Nat → Int64) (H : Heap) (locs : List Loc) (ls : Array Slot), o = B_0 → MI D cy s s.heap H locs q I J A B_0 → lv_has ls 29 [(0, .ref (q 46)), (9, .long x9), (11, .long x11)] → W p l e (rmL 2) s m args below meth c H locs 0 0 Q (F0 m 289 ls [])) → W p l e (rmL 2) s m args below meth c H locs 0 0 Q (F0 m 200 ls []) := by
      intro n; induction n with
      | zero => intro x3 x9 x11 x15 I J A B o Q H locs ls hs; rw [lX8_lays_200] at hs; cases hs
      | succ n ih =>
        intro x3 x9 x11 x15 I J A B o Q H locs ls hs hI hl kk0
        rw [lX8_lays_200] at hs
        refine lv_iload C.1 C.2.1 dX8_lays_200 (lv_at hl 4 rfl) ?_
        refine lv_iconst (v := 4) C.1 C.2.1 dX8_lays_202 (by decide) ?_
        refine lv_icmp_ge (tgt := 289) C.1 C.2.1 dX8_lays_203 (by decide) (fun cn => ?_) (fun cn => ?_)
        · have hs := if_t cn hs
          have eo := (Option.some.inj hs).symm
          exact kk0 _ _ _ _ eo hI (lv_sub hl [0, 2, 3] rfl)
        · have hs := if_f cn hs
          refine lv_aload_n C.1 C.2.1 dX8_lays_206 rfl (lv_at hl 0 rfl) ?_
          refine mg_5 C hI dX8_lays_207 ?_
          refine lv_iload C.1 C.2.1 dX8_lays_210 (lv_at hl 4 rfl) ?_
          refine lv_lconst (v := 0) C.1 C.2.1 dX8_lays_212 (by decide) ?_
          obtain ⟨hk, hs⟩ := ck_e hs
          refine ms_5 C hI hk dX8_lays_213 (fun H locs hI => ?_)
          have hs := gv_be hs
          refine lv_iconst (v := 0) C.1 C.2.1 dX8_lays_214 (by decide) ?_
          refine lv_istore (lv' := [(16, .int (0 : Int32)), (0, .ref (q 46)), (3, .int x3), (9, .long x9), (11, .long x11), (15, .int x15)]) C.1 C.2.1 dX8_lays_215 hl (by decide) rfl (fun ls hl => ?_)
          have KL_217 : ∀ (n : Nat) (x3 : Int32) (x9 : Int64) (x11 : Int64) (x15 : Int32) (x16 : Int32) (I : Nat → Int32) (J : Nat → Int64) (A : Nat → Nat → Int32) (B : Nat → Nat → Int64) (o : (Nat → Nat → Int64)) (Q : State → Prop) (H : Heap) (locs : List Loc) (ls : Array Slot), lX8_lays_217 n x3 x9 x11 x15 x16 I J A B = some o → MI D cy s s.heap H locs q I J A B → lv_has ls 29 [(0, .ref (q 46)), (3, .int x3), (9, .long x9), (11, .long x11), (15, .int x15), (16, .int x16)] → (∀ (B_0 : Nat → Nat → Int64) (H : Heap) (locs : List Loc) (ls : Array Slot), o = B_0 → MI D cy s s.heap H locs q I J A B_0 → lv_has ls 29 [(0, .ref (q 46)), (3, .int x3), (9, .long x9), (11, .long x11), (15, .int x15)] → W p l e (rmL 2) s m args below meth c H locs 0 0 Q (F0 m 283 ls [])) → W p l e (rmL 2) s m args below meth c H locs 0 0 Q (F0 m 217 ls []) := by
            intro n; induction n with
            | zero => intro x3 x9 x11 x15 x16 I J A B o Q H locs ls hs; rw [lX8_lays_217] at hs; cases hs
            | succ n ih =>
              intro x3 x9 x11 x15 x16 I J A B o Q H locs ls hs hI hl kk0
              rw [lX8_lays_217] at hs
              refine lv_iload C.1 C.2.1 dX8_lays_217 (lv_at hl 5 rfl) ?_
              refine lv_iconst (v := 2) C.1 C.2.1 dX8_lays_219 (by decide) ?_
              refine lv_icmp_ge (tgt := 283) C.1 C.2.1 dX8_lays_220 (by decide) (fun cn => ?_) (fun cn => ?_)
              · have hs := if_t cn hs
                have eo := (Option.some.inj hs).symm
                exact kk0 _ _ _ _ eo hI (lv_sub hl [0, 1, 2, 3, 4] rfl)
              · have hs := if_f cn hs
                refine lv_aload_n C.1 C.2.1 dX8_lays_223 rfl (lv_at hl 0 rfl) ?_
                refine mg_5 C hI dX8_lays_224 ?_
                refine lv_iload C.1 C.2.1 dX8_lays_227 (lv_at hl 4 rfl) ?_
                refine lv_dup2_11 C.1 C.2.1 dX8_lays_229 rfl rfl ?_
                obtain ⟨hk, hs⟩ := ck_e hs
                refine ma_5 C hI hk dX8_lays_230 ?_
                refine lv_aload_n C.1 C.2.1 dX8_lays_231 rfl (lv_at hl 0 rfl) ?_
                refine mg_4 C hI dX8_lays_232 ?_
                refine lv_bipush (v := 8) C.1 C.2.1 dX8_lays_235 (by decide) ?_
                refine lv_iload_n C.1 C.2.1 dX8_lays_237 rfl (lv_at hl 1 rfl) ?_
                refine lv_imul C.1 C.2.1 dX8_lays_238 ?_
                refine lv_iconst (v := 2) C.1 C.2.1 dX8_lays_239 (by decide) ?_
                refine lv_iload C.1 C.2.1 dX8_lays_240 (lv_at hl 4 rfl) ?_
                refine lv_imul C.1 C.2.1 dX8_lays_242 ?_
                refine lv_iadd C.1 C.2.1 dX8_lays_243 ?_
                refine lv_iload C.1 C.2.1 dX8_lays_244 (lv_at hl 5 rfl) ?_
                refine lv_iadd C.1 C.2.1 dX8_lays_246 ?_
                obtain ⟨hk, hs⟩ := ck_e hs
                refine ma_4 C hI hk dX8_lays_247 ?_
                refine lv_if_eq (tgt := 255) C.1 C.2.1 dX8_lays_248 (by decide) (fun cn => ?_) (fun cn => ?_)
                · have hs := if_t cn hs
                  refine lv_aload_n C.1 C.2.1 dX8_lays_255 rfl (lv_at hl 0 rfl) ?_
                  refine mg_1 C hI dX8_lays_256 ?_
                  refine lv_iconst (v := 0) C.1 C.2.1 dX8_lays_259 (by decide) ?_
                  refine lv_bipush (v := 8) C.1 C.2.1 dX8_lays_260 (by decide) ?_
                  refine lv_iload_n C.1 C.2.1 dX8_lays_262 rfl (lv_at hl 1 rfl) ?_
                  refine lv_imul C.1 C.2.1 dX8_lays_263 ?_
                  refine lv_iadd C.1 C.2.1 dX8_lays_264 ?_
                  refine lv_iconst (v := 2) C.1 C.2.1 dX8_lays_265 (by decide) ?_
                  refine lv_iload C.1 C.2.1 dX8_lays_266 (lv_at hl 4 rfl) ?_
                  refine lv_imul C.1 C.2.1 dX8_lays_268 ?_
                  refine lv_iadd C.1 C.2.1 dX8_lays_269 ?_
                  refine lv_iload C.1 C.2.1 dX8_lays_270 (lv_at hl 5 rfl) ?_
                  refine lv_iadd C.1 C.2.1 dX8_lays_272 ?_
                  obtain ⟨hk, hs⟩ := ck_e hs
                  refine ma_1 C hI hk dX8_lays_273 ?_
                  refine lv_i2l C.1 C.2.1 dX8_lays_274 rfl ?_
                  refine lv_ladd C.1 C.2.1 dX8_lays_275 ?_
                  obtain ⟨hk, hs⟩ := ck_e hs
                  refine ms_5 C hI hk dX8_lays_276 (fun H locs hI => ?_)
                  have hs := gv_be hs
                  obtain ⟨x16_277, ex16_277⟩ : ∃ y : Int32, y = (x16 + 1) := ⟨_, rfl⟩
                  have hs := gv_at ex16_277 hs
                  refine lv_iinc (v := x16_277) (lv' := [(16, .int x16_277), (0, .ref (q 46)), (3, .int x3), (9, .long x9), (11, .long x11), (15, .int x15)]) C.1 C.2.1 dX8_lays_277 hl (k := 5) rfl (by rw [ex16_277]; rfl) (by decide) rfl (fun ls hl => ?_)
                  refine lv_goto (tgt := 217) C.1 C.2.1 dX8_lays_280 (by decide) ?_
                  exact ih _ _ _ _ _ _ _ _ _ _ _ _ _ _ hs hI (lv_sub hl [1, 2, 3, 4, 5, 0] rfl) kk0
                · have hs := if_f cn hs
                  refine lv_lconst (v := 0) C.1 C.2.1 dX8_lays_251 (by decide) ?_
                  refine lv_goto (tgt := 275) C.1 C.2.1 dX8_lays_252 (by decide) ?_
                  refine lv_ladd C.1 C.2.1 dX8_lays_275 ?_
                  obtain ⟨hk, hs⟩ := ck_e hs
                  refine ms_5 C hI hk dX8_lays_276 (fun H locs hI => ?_)
                  have hs := gv_be hs
                  obtain ⟨x16_277, ex16_277⟩ : ∃ y : Int32, y = (x16 + 1) := ⟨_, rfl⟩
                  have hs := gv_at ex16_277 hs
                  refine lv_iinc (v := x16_277) (lv' := [(16, .int x16_277), (0, .ref (q 46)), (3, .int x3), (9, .long x9), (11, .long x11), (15, .int x15)]) C.1 C.2.1 dX8_lays_277 hl (k := 5) rfl (by rw [ex16_277]; rfl) (by decide) rfl (fun ls hl => ?_)
                  refine lv_goto (tgt := 217) C.1 C.2.1 dX8_lays_280 (by decide) ?_
                  exact ih _ _ _ _ _ _ _ _ _ _ _ _ _ _ hs hI (lv_sub hl [1, 2, 3, 4, 5, 0] rfl) kk0
          obtain ⟨B_L, hL, hs⟩ := bd_e hs
          refine KL_217 FU _ _ _ _ _ _ _ _ _ _ _ _ _ _ hL hI (lv_sub hl [1, 2, 3, 4, 5, 0] rfl) (fun z0 H locs ls eo hI hl => ?_)
          subst eo
          obtain ⟨x15_283, ex15_283⟩ : ∃ y : Int32, y = (x15 + 1) := ⟨_, rfl⟩
          have hs := gv_at ex15_283 hs
          refine lv_iinc (v := x15_283) (lv' := [(15, .int x15_283), (0, .ref (q 46)), (3, .int x3), (9, .long x9), (11, .long x11)]) C.1 C.2.1 dX8_lays_283 hl (k := 4) rfl (by rw [ex15_283]; rfl) (by decide) rfl (fun ls hl => ?_)
          refine lv_goto (tgt := 200) C.1 C.2.1 dX8_lays_286 (by decide) ?_
          exact ih _ _ _ _ _ _ _ _ _ _ _ _ _ hs hI (lv_sub hl [1, 2, 3, 4, 0] rfl) kk0
    obtain ⟨B_L, hL, hs⟩ := bd_e hs
    refine KL_200 FU _ _ _ _ _ _ _ _ _ _ _ _ _ hL hI (lv_sub hl [5, 7, 3, 2, 0] rfl) (fun z0 H locs ls eo hI hl => ?_)
    subst eo
    refine lv_aload_n C.1 C.2.1 dX8_lays_289 rfl (lv_at hl 0 rfl) ?_
    refine mg_5 C hI dX8_lays_290 ?_
    refine lv_iconst (v := 0) C.1 C.2.1 dX8_lays_293 (by decide) ?_
    refine ma_5 C hI (by decide) dX8_lays_294 ?_
    refine lv_aload_n C.1 C.2.1 dX8_lays_295 rfl (lv_at hl 0 rfl) ?_
    refine mg_5 C hI dX8_lays_296 ?_
    refine lv_iconst (v := 2) C.1 C.2.1 dX8_lays_299 (by decide) ?_
    refine ma_5 C hI (by decide) dX8_lays_300 ?_
    refine lv_ladd C.1 C.2.1 dX8_lays_301 ?_
    refine lv_topl (fun x15_302 ex15_302 => ?_)
    have hs := gv_at ex15_302 hs
    refine lv_lstore (lv' := [(15, .long x15_302), (0, .ref (q 46)), (9, .long x9_117), (11, .long x11_136)]) C.1 C.2.1 dX8_lays_302 hl (by decide) rfl (fun ls hl => ?_)
    refine lv_aload_n C.1 C.2.1 dX8_lays_304 rfl (lv_at hl 1 rfl) ?_
    refine mg_5 C hI dX8_lays_305 ?_
    refine lv_iconst (v := 1) C.1 C.2.1 dX8_lays_308 (by decide) ?_
    refine ma_5 C hI (by decide) dX8_lays_309 ?_
    refine lv_aload_n C.1 C.2.1 dX8_lays_310 rfl (lv_at hl 1 rfl) ?_
    refine mg_5 C hI dX8_lays_311 ?_
    refine lv_iconst (v := 3) C.1 C.2.1 dX8_lays_314 (by decide) ?_
    refine ma_5 C hI (by decide) dX8_lays_315 ?_
    refine lv_ladd C.1 C.2.1 dX8_lays_316 ?_
    refine lv_topl (fun x17_317 ex17_317 => ?_)
    have hs := gv_at ex17_317 hs
    refine lv_lstore (lv' := [(17, .long x17_317), (15, .long x15_302), (0, .ref (q 46)), (9, .long x9_117), (11, .long x11_136)]) C.1 C.2.1 dX8_lays_317 hl (by decide) rfl (fun ls hl => ?_)
    refine lv_aload_n C.1 C.2.1 dX8_lays_319 rfl (lv_at hl 2 rfl) ?_
    refine mg_5 C hI dX8_lays_320 ?_
    refine lv_iconst (v := 2) C.1 C.2.1 dX8_lays_323 (by decide) ?_
    refine ma_5 C hI (by decide) dX8_lays_324 ?_
    refine lv_aload_n C.1 C.2.1 dX8_lays_325 rfl (lv_at hl 2 rfl) ?_
    refine mg_5 C hI dX8_lays_326 ?_
    refine lv_iconst (v := 0) C.1 C.2.1 dX8_lays_329 (by decide) ?_
    refine ma_5 C hI (by decide) dX8_lays_330 ?_
    refine lv_lsub C.1 C.2.1 dX8_lays_331 ?_
    refine lv_topl (fun x19_332 ex19_332 => ?_)
    have hs := gv_at ex19_332 hs
    refine lv_lstore (lv' := [(19, .long x19_332), (17, .long x17_317), (15, .long x15_302), (0, .ref (q 46)), (9, .long x9_117), (11, .long x11_136)]) C.1 C.2.1 dX8_lays_332 hl (by decide) rfl (fun ls hl => ?_)
    refine lv_aload_n C.1 C.2.1 dX8_lays_334 rfl (lv_at hl 3 rfl) ?_
    refine mg_5 C hI dX8_lays_335 ?_
    refine lv_iconst (v := 1) C.1 C.2.1 dX8_lays_338 (by decide) ?_
    refine ma_5 C hI (by decide) dX8_lays_339 ?_
    refine lv_aload_n C.1 C.2.1 dX8_lays_340 rfl (lv_at hl 3 rfl) ?_
    refine mg_5 C hI dX8_lays_341 ?_
    refine lv_iconst (v := 3) C.1 C.2.1 dX8_lays_344 (by decide) ?_
    refine ma_5 C hI (by decide) dX8_lays_345 ?_
    refine lv_lsub C.1 C.2.1 dX8_lays_346 ?_
    refine lv_topl (fun x21_347 ex21_347 => ?_)
    have hs := gv_at ex21_347 hs
    refine lv_lstore (lv' := [(21, .long x21_347), (19, .long x19_332), (17, .long x17_317), (15, .long x15_302), (0, .ref (q 46)), (9, .long x9_117), (11, .long x11_136)]) C.1 C.2.1 dX8_lays_347 hl (by decide) rfl (fun ls hl => ?_)
    refine lv_aload_n C.1 C.2.1 dX8_lays_349 rfl (lv_at hl 4 rfl) ?_
    refine lv_lload C.1 C.2.1 dX8_lays_350 (lv_at hl 3 rfl) ?_
    refine lv_lload C.1 C.2.1 dX8_lays_352 (lv_at hl 2 rfl) ?_
    refine lv_lmul C.1 C.2.1 dX8_lays_354 ?_
    refine lv_lload C.1 C.2.1 dX8_lays_355 (lv_at hl 3 rfl) ?_
    refine lv_lload C.1 C.2.1 dX8_lays_357 (lv_at hl 2 rfl) ?_
    refine lv_ladd C.1 C.2.1 dX8_lays_359 ?_
    refine lv_lmul C.1 C.2.1 dX8_lays_360 ?_
    refine lv_lload C.1 C.2.1 dX8_lays_361 (lv_at hl 3 rfl) ?_
    refine lv_lload C.1 C.2.1 dX8_lays_363 (lv_at hl 0 rfl) ?_
    refine lv_lmul C.1 C.2.1 dX8_lays_365 ?_
    refine lv_lload C.1 C.2.1 dX8_lays_366 (lv_at hl 0 rfl) ?_
    refine lv_lmul C.1 C.2.1 dX8_lays_368 ?_
    refine lv_lsub C.1 C.2.1 dX8_lays_369 ?_
    refine lv_lload C.1 C.2.1 dX8_lays_370 (lv_at hl 2 rfl) ?_
    refine lv_lload C.1 C.2.1 dX8_lays_372 (lv_at hl 1 rfl) ?_
    refine lv_lmul C.1 C.2.1 dX8_lays_374 ?_
    refine lv_lload C.1 C.2.1 dX8_lays_375 (lv_at hl 1 rfl) ?_
    refine lv_lmul C.1 C.2.1 dX8_lays_377 ?_
    refine lv_lsub C.1 C.2.1 dX8_lays_378 ?_
    refine mp_7 C hI dX8_lays_379 (fun H locs hI => ?_)
    have hs := gv_be hs
    refine lv_aload_n C.1 C.2.1 dX8_lays_382 rfl (lv_at hl 4 rfl) ?_
    refine mg_7 C hI dX8_lays_383 ?_
    refine lv_lconst (v := 0) C.1 C.2.1 dX8_lays_386 (by decide) ?_
    refine W.lcmp C.1 C.2.1 dX8_lays_387 ?_
    refine lv_if_ne (tgt := 393) C.1 C.2.1 dX8_lays_388 (by decide) (fun cn => ?_) (fun cn => ?_)
    · have hs := if_f cn hs
      refine lv_lload C.1 C.2.1 dX8_lays_393 (lv_at hl 5 rfl) ?_
      refine lv_lload C.1 C.2.1 dX8_lays_395 (lv_at hl 2 rfl) ?_
      refine lv_lload C.1 C.2.1 dX8_lays_397 (lv_at hl 3 rfl) ?_
      refine lv_lload C.1 C.2.1 dX8_lays_399 (lv_at hl 2 rfl) ?_
      refine lv_ladd C.1 C.2.1 dX8_lays_401 ?_
      refine lv_lmul C.1 C.2.1 dX8_lays_402 ?_
      refine lv_lload C.1 C.2.1 dX8_lays_403 (lv_at hl 0 rfl) ?_
      refine lv_lload C.1 C.2.1 dX8_lays_405 (lv_at hl 0 rfl) ?_
      refine lv_lmul C.1 C.2.1 dX8_lays_407 ?_
      refine lv_lsub C.1 C.2.1 dX8_lays_408 ?_
      refine lv_lmul C.1 C.2.1 dX8_lays_409 ?_
      refine lv_lload C.1 C.2.1 dX8_lays_410 (lv_at hl 1 rfl) ?_
      refine lv_lload C.1 C.2.1 dX8_lays_412 (lv_at hl 0 rfl) ?_
      refine lv_lmul C.1 C.2.1 dX8_lays_414 ?_
      refine lv_lload C.1 C.2.1 dX8_lays_415 (lv_at hl 6 rfl) ?_
      refine lv_lmul C.1 C.2.1 dX8_lays_417 ?_
      refine lv_ladd C.1 C.2.1 dX8_lays_418 ?_
      refine lv_topl (fun x23_419 ex23_419 => ?_)
      have hs := gv_at ex23_419 hs
      refine lv_lstore (lv' := [(23, .long x23_419), (21, .long x21_347), (19, .long x19_332), (17, .long x17_317), (15, .long x15_302), (0, .ref (q 46)), (9, .long x9_117), (11, .long x11_136)]) C.1 C.2.1 dX8_lays_419 hl (by decide) rfl (fun ls hl => ?_)
      refine lv_lload C.1 C.2.1 dX8_lays_421 (lv_at hl 7 rfl) ?_
      refine lv_lload C.1 C.2.1 dX8_lays_423 (lv_at hl 4 rfl) ?_
      refine lv_lload C.1 C.2.1 dX8_lays_425 (lv_at hl 4 rfl) ?_
      refine lv_lload C.1 C.2.1 dX8_lays_427 (lv_at hl 3 rfl) ?_
      refine lv_ladd C.1 C.2.1 dX8_lays_429 ?_
      refine lv_lmul C.1 C.2.1 dX8_lays_430 ?_
      refine lv_lload C.1 C.2.1 dX8_lays_431 (lv_at hl 2 rfl) ?_
      refine lv_lload C.1 C.2.1 dX8_lays_433 (lv_at hl 2 rfl) ?_
      refine lv_lmul C.1 C.2.1 dX8_lays_435 ?_
      refine lv_lsub C.1 C.2.1 dX8_lays_436 ?_
      refine lv_lmul C.1 C.2.1 dX8_lays_437 ?_
      refine lv_lload C.1 C.2.1 dX8_lays_438 (lv_at hl 2 rfl) ?_
      refine lv_lload C.1 C.2.1 dX8_lays_440 (lv_at hl 1 rfl) ?_
      refine lv_lmul C.1 C.2.1 dX8_lays_442 ?_
      refine lv_lload C.1 C.2.1 dX8_lays_443 (lv_at hl 6 rfl) ?_
      refine lv_lmul C.1 C.2.1 dX8_lays_445 ?_
      refine lv_ladd C.1 C.2.1 dX8_lays_446 ?_
      refine lv_topl (fun x25_447 ex25_447 => ?_)
      have hs := gv_at ex25_447 hs
      refine lv_lstore (lv' := [(25, .long x25_447), (23, .long x23_419), (21, .long x21_347), (19, .long x19_332), (17, .long x17_317), (15, .long x15_302), (0, .ref (q 46)), (9, .long x9_117), (11, .long x11_136)]) C.1 C.2.1 dX8_lays_447 hl (by decide) rfl (fun ls hl => ?_)
      refine lv_lload C.1 C.2.1 dX8_lays_449 (lv_at hl 5 rfl) ?_
      refine lv_lload C.1 C.2.1 dX8_lays_451 (lv_at hl 2 rfl) ?_
      refine lv_lmul C.1 C.2.1 dX8_lays_453 ?_
      refine lv_lload C.1 C.2.1 dX8_lays_454 (lv_at hl 8 rfl) ?_
      refine lv_lmul C.1 C.2.1 dX8_lays_456 ?_
      refine lv_lload C.1 C.2.1 dX8_lays_457 (lv_at hl 4 rfl) ?_
      refine lv_lload C.1 C.2.1 dX8_lays_459 (lv_at hl 3 rfl) ?_
      refine lv_lmul C.1 C.2.1 dX8_lays_461 ?_
      refine lv_lload C.1 C.2.1 dX8_lays_462 (lv_at hl 7 rfl) ?_
      refine lv_lmul C.1 C.2.1 dX8_lays_464 ?_
      refine lv_ladd C.1 C.2.1 dX8_lays_465 ?_
      refine lv_lneg C.1 C.2.1 dX8_lays_466 ?_
      refine lv_topl (fun x27_467 ex27_467 => ?_)
      have hs := gv_at ex27_467 hs
      refine lv_lstore (lv' := [(27, .long x27_467), (25, .long x25_447), (23, .long x23_419), (21, .long x21_347), (19, .long x19_332), (17, .long x17_317), (15, .long x15_302), (0, .ref (q 46)), (9, .long x9_117), (11, .long x11_136)]) C.1 C.2.1 dX8_lays_467 hl (by decide) rfl (fun ls hl => ?_)
      refine lv_aload_n C.1 C.2.1 dX8_lays_469 rfl (lv_at hl 7 rfl) ?_
      refine mg_6 C hI dX8_lays_470 ?_
      refine lv_iconst (v := 0) C.1 C.2.1 dX8_lays_473 (by decide) ?_
      refine lv_lload C.1 C.2.1 dX8_lays_474 (lv_at hl 2 rfl) ?_
      refine lv_lload C.1 C.2.1 dX8_lays_476 (lv_at hl 0 rfl) ?_
      refine lv_lsub C.1 C.2.1 dX8_lays_478 ?_
      refine ms_6 C hI (by decide) dX8_lays_479 (fun H locs hI => ?_)
      have hs := gv_be hs
      refine lv_aload_n C.1 C.2.1 dX8_lays_480 rfl (lv_at hl 7 rfl) ?_
      refine mg_6 C hI dX8_lays_481 ?_
      refine lv_iconst (v := 1) C.1 C.2.1 dX8_lays_484 (by decide) ?_
      refine lv_lload C.1 C.2.1 dX8_lays_485 (lv_at hl 1 rfl) ?_
      refine lv_lload C.1 C.2.1 dX8_lays_487 (lv_at hl 0 rfl) ?_
      refine lv_ladd C.1 C.2.1 dX8_lays_489 ?_
      refine ms_6 C hI (by decide) dX8_lays_490 (fun H locs hI => ?_)
      have hs := gv_be hs
      refine lv_aload_n C.1 C.2.1 dX8_lays_491 rfl (lv_at hl 7 rfl) ?_
      refine mg_6 C hI dX8_lays_492 ?_
      refine lv_iconst (v := 2) C.1 C.2.1 dX8_lays_495 (by decide) ?_
      refine lv_lload C.1 C.2.1 dX8_lays_496 (lv_at hl 2 rfl) ?_
      refine lv_lload C.1 C.2.1 dX8_lays_498 (lv_at hl 0 rfl) ?_
      refine lv_ladd C.1 C.2.1 dX8_lays_500 ?_
      refine ms_6 C hI (by decide) dX8_lays_501 (fun H locs hI => ?_)
      have hs := gv_be hs
      refine lv_aload_n C.1 C.2.1 dX8_lays_502 rfl (lv_at hl 7 rfl) ?_
      refine mg_6 C hI dX8_lays_503 ?_
      refine lv_iconst (v := 3) C.1 C.2.1 dX8_lays_506 (by decide) ?_
      refine lv_lload C.1 C.2.1 dX8_lays_507 (lv_at hl 1 rfl) ?_
      refine lv_lload C.1 C.2.1 dX8_lays_509 (lv_at hl 0 rfl) ?_
      refine lv_lsub C.1 C.2.1 dX8_lays_511 ?_
      refine ms_6 C hI (by decide) dX8_lays_512 (fun H locs hI => ?_)
      have hs := gv_be hs
      refine lv_aload_n C.1 C.2.1 dX8_lays_513 rfl (lv_at hl 7 rfl) ?_
      refine mg_10 C hI dX8_lays_514 ?_
      refine lv_lconst (v := 0) C.1 C.2.1 dX8_lays_517 (by decide) ?_
      refine W.lcmp C.1 C.2.1 dX8_lays_518 ?_
      obtain ⟨k_544, ek_544, hs⟩ := gv_ex hs
      have KJ_544 : ∀ (J : Nat → Int64) (B : Nat → Nat → Int64) (H : Heap) (locs : List Loc) (ls : Array Slot), k_544 J B = some (r, J2, B2) → MI D cy s s.heap H locs q I J A B → lv_has ls 29 [(0, .ref (q 46))] → W p l e (rmL 2) s m args below meth c H locs 0 0 (MQ below (mQ D cy q (some (.int r)) I J2 A B2) args s 0 0 (MA q)) (F0 m 544 ls []) := by
        intro J B H locs ls hs hI hl
        rw [ek_544] at hs
        refine lv_aload_n C.1 C.2.1 dX8_lays_544 rfl (lv_at hl 0 rfl) ?_
        refine mg_11 C hI dX8_lays_545 ?_
        refine lv_lconst (v := 0) C.1 C.2.1 dX8_lays_548 (by decide) ?_
        refine W.lcmp C.1 C.2.1 dX8_lays_549 ?_
        refine lv_if_eq (tgt := 575) C.1 C.2.1 dX8_lays_550 (by decide) (fun cn => ?_) (fun cn => ?_)
        · have hs := if_t cn hs
          refine lv_iconst (v := 1) C.1 C.2.1 dX8_lays_575 (by decide) ?_
          refine lv_goto (tgt := 580) C.1 C.2.1 dX8_lays_576 (by decide) ?_
          obtain ⟨rfl, rfl, rfl⟩ := so3 hs
          exact M_zret C hI (by decide) dX8_lays_580
        · have hs := if_f cn hs
          refine lv_aload_n C.1 C.2.1 dX8_lays_553 rfl (lv_at hl 0 rfl) ?_
          refine mg_5 C hI dX8_lays_554 ?_
          refine lv_iconst (v := 1) C.1 C.2.1 dX8_lays_557 (by decide) ?_
          refine ma_5 C hI (by decide) dX8_lays_558 ?_
          refine lv_lconst (v := 0) C.1 C.2.1 dX8_lays_559 (by decide) ?_
          refine W.lcmp C.1 C.2.1 dX8_lays_560 ?_
          refine lv_if_eq (tgt := 579) C.1 C.2.1 dX8_lays_561 (by decide) (fun cn => ?_) (fun cn => ?_)
          · have hs := if_t cn hs
            refine lv_iconst (v := 0) C.1 C.2.1 dX8_lays_579 (by decide) ?_
            obtain ⟨rfl, rfl, rfl⟩ := so3 hs
            exact M_zret C hI (by decide) dX8_lays_580
          · have hs := if_f cn hs
            refine lv_aload_n C.1 C.2.1 dX8_lays_564 rfl (lv_at hl 0 rfl) ?_
            refine mg_5 C hI dX8_lays_565 ?_
            refine lv_iconst (v := 3) C.1 C.2.1 dX8_lays_568 (by decide) ?_
            refine ma_5 C hI (by decide) dX8_lays_569 ?_
            refine lv_lconst (v := 0) C.1 C.2.1 dX8_lays_570 (by decide) ?_
            refine W.lcmp C.1 C.2.1 dX8_lays_571 ?_
            refine lv_if_eq (tgt := 579) C.1 C.2.1 dX8_lays_572 (by decide) (fun cn => ?_) (fun cn => ?_)
            · have hs := if_t cn hs
              refine lv_iconst (v := 0) C.1 C.2.1 dX8_lays_579 (by decide) ?_
              obtain ⟨rfl, rfl, rfl⟩ := so3 hs
              exact M_zret C hI (by decide) dX8_lays_580
            · have hs := if_f cn hs
              refine lv_iconst (v := 1) C.1 C.2.1 dX8_lays_575 (by decide) ?_
              refine lv_goto (tgt := 580) C.1 C.2.1 dX8_lays_576 (by decide) ?_
              obtain ⟨rfl, rfl, rfl⟩ := so3 hs
              exact M_zret C hI (by decide) dX8_lays_580
      refine lv_if_eq (tgt := 544) C.1 C.2.1 dX8_lays_519 (by decide) (fun cn => ?_) (fun cn => ?_)
      · have hs := if_t cn hs
        exact KJ_544 _ _ _ _ _ hs hI (lv_sub hl [7] rfl)
      · have hs := if_f cn hs
        refine lv_aload_n C.1 C.2.1 dX8_lays_522 rfl (lv_at hl 7 rfl) ?_
        refine mg_5 C hI dX8_lays_523 ?_
        refine lv_iconst (v := 0) C.1 C.2.1 dX8_lays_526 (by decide) ?_
        refine ma_5 C hI (by decide) dX8_lays_527 ?_
        refine lv_lconst (v := 0) C.1 C.2.1 dX8_lays_528 (by decide) ?_
        refine W.lcmp C.1 C.2.1 dX8_lays_529 ?_
        refine lv_if_eq (tgt := 579) C.1 C.2.1 dX8_lays_530 (by decide) (fun cn => ?_) (fun cn => ?_)
        · have hs := if_t cn hs
          refine lv_iconst (v := 0) C.1 C.2.1 dX8_lays_579 (by decide) ?_
          obtain ⟨rfl, rfl, rfl⟩ := so3 hs
          exact M_zret C hI (by decide) dX8_lays_580
        · have hs := if_f cn hs
          refine lv_aload_n C.1 C.2.1 dX8_lays_533 rfl (lv_at hl 7 rfl) ?_
          refine mg_5 C hI dX8_lays_534 ?_
          refine lv_iconst (v := 2) C.1 C.2.1 dX8_lays_537 (by decide) ?_
          refine ma_5 C hI (by decide) dX8_lays_538 ?_
          refine lv_lconst (v := 0) C.1 C.2.1 dX8_lays_539 (by decide) ?_
          refine W.lcmp C.1 C.2.1 dX8_lays_540 ?_
          refine lv_if_eq (tgt := 579) C.1 C.2.1 dX8_lays_541 (by decide) (fun cn => ?_) (fun cn => ?_)
          · have hs := if_t cn hs
            refine lv_iconst (v := 0) C.1 C.2.1 dX8_lays_579 (by decide) ?_
            obtain ⟨rfl, rfl, rfl⟩ := so3 hs
            exact M_zret C hI (by decide) dX8_lays_580
          · have hs := if_f cn hs
            exact KJ_544 _ _ _ _ _ hs hI (lv_sub hl [7] rfl)
    · have hs := if_t cn hs
      refine lv_iconst (v := 0) C.1 C.2.1 dX8_lays_391 (by decide) ?_
      obtain ⟨rfl, rfl, rfl⟩ := so3 hs
      exact M_zret C hI (by decide) dX8_lays_392
  refine lv_icmp_ne (tgt := 96) C.1 C.2.1 dX8_lays_82 (by decide) (fun cn => ?_) (fun cn => ?_)
  · have hs := if_f cn hs
    refine lv_bipush (v := 100) C.1 C.2.1 dX8_lays_96 (by decide) ?_
    exact KJ_98 _ _ _ _ _ _ hs hI (lv_sub hl [0, 1, 3, 4, 5] rfl)
  · have hs := if_t cn hs
    refine lv_bipush (v := 100) C.1 C.2.1 dX8_lays_85 (by decide) ?_
    refine lv_aload_n C.1 C.2.1 dX8_lays_87 rfl (lv_at hl 0 rfl) ?_
    refine lv_iconst (v := 4) C.1 C.2.1 dX8_lays_88 (by decide) ?_
    obtain ⟨r_89, hc, hs⟩ := bd_e hs
    refine M_call C hI (kX8_term l D cy q _ _ _ _ _ _ hc) ml_X8_99 im_X8_term se_X8_term ini_X8 co_X8_term hyX8_term rfl ⟨by decide, by decide⟩ hl.1 rfl (Nat.le_of_ble_eq_true rfl) dX8_lays_89 (fun H locs hI => ?_)
    refine lv_isub C.1 C.2.1 dX8_lays_92 ?_
    refine lv_goto (tgt := 98) C.1 C.2.1 dX8_lays_93 (by decide) ?_
    exact KJ_98 _ _ _ _ _ _ hs hI (lv_sub hl [0, 1, 3, 4, 5] rfl)

def sX8_must (x1 : Int32) (I : Nat → Int32) (J : Nat → Int64) (A : Nat → Nat → Int32) (B : Nat → Nat → Int64) : Option ((Nat → Int32)) :=
(sX8_takes x1 I J A B).bind fun (r_2, I) =>
if r_2 = 0 then
((sX8_faults  I J A B).bind fun I =>
some I)
else
some I
set_option maxRecDepth 100000 in
set_option maxHeartbeats 8000000 in
theorem kX8_must (l : Launch) (D : va_G) (cy : Nat → ClassId) (q : Nat → Nat) (x1 : Int32) (I : Nat → Int32) (J : Nat → Int64) (A : Nat → Nat → Int32) (B : Nat → Nat → Int64) (I2 : Nat → Int32) (hs : sX8_must x1 I J A B = some I2) : McI l yX8_must cX8_must 2 none 2 [.ref (q 46), .int x1] D cy q I J A B none I2 J A B := by
  refine M_start rfl rfl (Nat.le_of_ble_eq_true rfl) ?_
  intro p e s m args below meth c H locs C hI ls hl
  have hl : lv_has ls 2 [(0, .ref (q 46)), (1, .int x1)] := hl
  rw [sX8_must] at hs
  refine lv_aload_n C.1 C.2.1 dX8_must_0 rfl (lv_at hl 0 rfl) ?_
  refine lv_iload_n C.1 C.2.1 dX8_must_1 rfl (lv_at hl 1 rfl) ?_
  obtain ⟨⟨r_2, I⟩, hc, hs⟩ := bd_e hs
  refine M_call C hI (kX8_takes l D cy q _ _ _ _ _ _ _ hc) ml_X8_190 im_X8_takes se_X8_takes ini_X8 co_X8_takes hyX8_takes rfl ⟨by decide, by decide⟩ hl.1 rfl (Nat.le_of_ble_eq_true rfl) dX8_must_2 (fun H locs hI => ?_)
  refine lv_if_ne (tgt := 12) C.1 C.2.1 dX8_must_5 (by decide) (fun cn => ?_) (fun cn => ?_)
  · have hs := if_f cn hs
    obtain rfl := Option.some.inj hs
    exact M_vret C hI dX8_must_12
  · have hs := if_t cn hs
    refine lv_aload_n C.1 C.2.1 dX8_must_8 rfl (lv_at hl 0 rfl) ?_
    obtain ⟨I, hc, hs⟩ := bd_e hs
    refine M_call C hI (kX8_faults l D cy q _ _ _ _ _ hc) ml_X8_193 im_X8_faults se_X8_faults ini_X8 co_X8_faults hyX8_faults rfl ⟨by decide, by decide⟩ hl.1 rfl (Nat.le_of_ble_eq_true rfl) dX8_must_9 (fun H locs hI => ?_)
    obtain rfl := Option.some.inj hs
    exact M_vret C hI dX8_must_12

def sX8_leaf (I : Nat → Int32) (J : Nat → Int64) (A : Nat → Nat → Int32) (B : Nat → Nat → Int64) : Option ((Nat → Int32)) :=
gv (fun (I : Nat → Int32) =>
gv (upd I 27 ((I 27) + (1 : Int32))) fun I =>
(sX8_fine  I J A B).bind fun r_24 =>
if r_24 = 0 then
(some I)
else
gv (upd I 26 ((I 26) + (1 : Int32))) fun I =>
some I) fun k_13 =>
if (I 27) = (50 : Int32) then
((sX8_faults  I J A B).bind fun I =>
k_13 I)
else
k_13 I
set_option maxRecDepth 100000 in
set_option maxHeartbeats 8000000 in
theorem kX8_leaf (l : Launch) (D : va_G) (cy : Nat → ClassId) (q : Nat → Nat) (I : Nat → Int32) (J : Nat → Int64) (A : Nat → Nat → Int32) (B : Nat → Nat → Int64) (I2 : Nat → Int32) (hs : sX8_leaf I J A B = some I2) : McI l yX8_leaf cX8_leaf 1 none 2 [.ref (q 46)] D cy q I J A B none I2 J A B := by
  refine M_start rfl rfl (Nat.le_of_ble_eq_true rfl) ?_
  intro p e s m args below meth c H locs C hI ls hl
  have hl : lv_has ls 1 [(0, .ref (q 46))] := hl
  rw [sX8_leaf] at hs
  refine lv_aload_n C.1 C.2.1 dX8_leaf_0 rfl (lv_at hl 0 rfl) ?_
  refine mg_27 C hI dX8_leaf_1 ?_
  refine lv_bipush (v := 50) C.1 C.2.1 dX8_leaf_4 (by decide) ?_
  obtain ⟨k_13, ek_13, hs⟩ := gv_ex hs
  have KJ_13 : ∀ (I : Nat → Int32) (H : Heap) (locs : List Loc) (ls : Array Slot), k_13 I = some I2 → MI D cy s s.heap H locs q I J A B → lv_has ls 1 [(0, .ref (q 46))] → W p l e (rmL 2) s m args below meth c H locs 0 0 (MQ below (mQ D cy q none I2 J A B) args s 0 0 (MA q)) (F0 m 13 ls []) := by
    intro I H locs ls hs hI hl
    rw [ek_13] at hs
    refine lv_aload_n C.1 C.2.1 dX8_leaf_13 rfl (lv_at hl 0 rfl) ?_
    refine lv_dup C.1 C.2.1 dX8_leaf_14 rfl ?_
    refine mg_27 C hI dX8_leaf_15 ?_
    refine lv_iconst (v := 1) C.1 C.2.1 dX8_leaf_18 (by decide) ?_
    refine lv_iadd C.1 C.2.1 dX8_leaf_19 ?_
    refine mp_27 C hI dX8_leaf_20 (fun H locs hI => ?_)
    have hs := gv_be hs
    refine lv_aload_n C.1 C.2.1 dX8_leaf_23 rfl (lv_at hl 0 rfl) ?_
    obtain ⟨r_24, hc, hs⟩ := bd_e hs
    refine M_call C hI (kX8_fine l D cy q _ _ _ _ _ hc) ml_X8_183 im_X8_fine se_X8_fine ini_X8 co_X8_fine hyX8_fine rfl ⟨by decide, by decide⟩ hl.1 rfl (Nat.le_of_ble_eq_true rfl) dX8_leaf_24 (fun H locs hI => ?_)
    refine lv_if_eq (tgt := 40) C.1 C.2.1 dX8_leaf_27 (by decide) (fun cn => ?_) (fun cn => ?_)
    · have hs := if_t cn hs
      obtain rfl := Option.some.inj hs
      exact M_vret C hI dX8_leaf_40
    · have hs := if_f cn hs
      refine lv_aload_n C.1 C.2.1 dX8_leaf_30 rfl (lv_at hl 0 rfl) ?_
      refine lv_dup C.1 C.2.1 dX8_leaf_31 rfl ?_
      refine mg_26 C hI dX8_leaf_32 ?_
      refine lv_iconst (v := 1) C.1 C.2.1 dX8_leaf_35 (by decide) ?_
      refine lv_iadd C.1 C.2.1 dX8_leaf_36 ?_
      refine mp_26 C hI dX8_leaf_37 (fun H locs hI => ?_)
      have hs := gv_be hs
      obtain rfl := Option.some.inj hs
      exact M_vret C hI dX8_leaf_40
  refine lv_icmp_ne (tgt := 13) C.1 C.2.1 dX8_leaf_6 (by decide) (fun cn => ?_) (fun cn => ?_)
  · have hs := if_f cn hs
    exact KJ_13 _ _ _ _ hs hI (lv_sub hl [0] rfl)
  · have hs := if_t cn hs
    refine lv_aload_n C.1 C.2.1 dX8_leaf_9 rfl (lv_at hl 0 rfl) ?_
    obtain ⟨I, hc, hs⟩ := bd_e hs
    refine M_call C hI (kX8_faults l D cy q _ _ _ _ _ hc) ml_X8_193 im_X8_faults se_X8_faults ini_X8 co_X8_faults hyX8_faults rfl ⟨by decide, by decide⟩ hl.1 rfl (Nat.le_of_ble_eq_true rfl) dX8_leaf_10 (fun H locs hI => ?_)
    exact KJ_13 _ _ _ _ hs hI (lv_sub hl [0] rfl)

def sX8_yearBy (x1 : Int32) (x2 : Int32) (x3 : Int32) (I : Nat → Int32) (J : Nat → Int64) (A : Nat → Nat → Int32) (B : Nat → Nat → Int64) : Option ((Int64)) :=
(sX8_oddsOf x1 I J A B).bind fun r_2 =>
(sX8_oddsOf x2 I J A B).bind fun r_13 =>
some ((r_2 * ((((100 : Int32) - x3)).toInt64)) + (r_13 * (x3.toInt64)))
set_option maxRecDepth 100000 in
set_option maxHeartbeats 8000000 in
theorem kX8_yearBy (l : Launch) (D : va_G) (cy : Nat → ClassId) (q : Nat → Nat) (x1 : Int32) (x2 : Int32) (x3 : Int32) (I : Nat → Int32) (J : Nat → Int64) (A : Nat → Nat → Int32) (B : Nat → Nat → Int64) (r : Int64) (hs : sX8_yearBy x1 x2 x3 I J A B = some r) : McI l yX8_yearBy cX8_yearBy 4 (some .long) 2 [.ref (q 46), .int x1, .int x2, .int x3] D cy q I J A B (some (.long r)) I J A B := by
  refine M_start rfl rfl (Nat.le_of_ble_eq_true rfl) ?_
  intro p e s m args below meth c H locs C hI ls hl
  have hl : lv_has ls 4 [(0, .ref (q 46)), (1, .int x1), (2, .int x2), (3, .int x3)] := hl
  rw [sX8_yearBy] at hs
  refine lv_aload_n C.1 C.2.1 dX8_yearBy_0 rfl (lv_at hl 0 rfl) ?_
  refine lv_iload_n C.1 C.2.1 dX8_yearBy_1 rfl (lv_at hl 1 rfl) ?_
  obtain ⟨r_2, hc, hs⟩ := bd_e hs
  refine M_call C hI (kX8_oddsOf l D cy q _ _ _ _ _ _ hc) ml_X8_331 im_X8_oddsOf se_X8_oddsOf ini_X8 co_X8_oddsOf hyX8_oddsOf rfl ⟨by decide, by decide⟩ hl.1 rfl (Nat.le_of_ble_eq_true rfl) dX8_yearBy_2 (fun H locs hI => ?_)
  refine lv_bipush (v := 100) C.1 C.2.1 dX8_yearBy_5 (by decide) ?_
  refine lv_iload_n C.1 C.2.1 dX8_yearBy_7 rfl (lv_at hl 3 rfl) ?_
  refine lv_isub C.1 C.2.1 dX8_yearBy_8 ?_
  refine lv_i2l C.1 C.2.1 dX8_yearBy_9 rfl ?_
  refine lv_lmul C.1 C.2.1 dX8_yearBy_10 ?_
  refine lv_aload_n C.1 C.2.1 dX8_yearBy_11 rfl (lv_at hl 0 rfl) ?_
  refine lv_iload_n C.1 C.2.1 dX8_yearBy_12 rfl (lv_at hl 2 rfl) ?_
  obtain ⟨r_13, hc, hs⟩ := bd_e hs
  refine M_call C hI (kX8_oddsOf l D cy q _ _ _ _ _ _ hc) ml_X8_331 im_X8_oddsOf se_X8_oddsOf ini_X8 co_X8_oddsOf hyX8_oddsOf rfl ⟨by decide, by decide⟩ hl.1 rfl (Nat.le_of_ble_eq_true rfl) dX8_yearBy_13 (fun H locs hI => ?_)
  refine lv_iload_n C.1 C.2.1 dX8_yearBy_16 rfl (lv_at hl 3 rfl) ?_
  refine lv_i2l C.1 C.2.1 dX8_yearBy_17 rfl ?_
  refine lv_lmul C.1 C.2.1 dX8_yearBy_18 ?_
  refine lv_ladd C.1 C.2.1 dX8_yearBy_19 ?_
  obtain rfl := Option.some.inj hs
  exact M_lret C hI dX8_yearBy_20

def lX8_wish_34 : Nat → Int32 → Int32 → (Nat → Int32) → (Nat → Int64) → (Nat → Nat → Int32) → (Nat → Nat → Int64) → Option ((Unit) ⊕ (Unit))
  | 0, _, _, _, _, _, _ => none
  | n + 1, x1, x2, I, J, A, B =>
    if (I 41) ≤ x2 then
    (some (.inr ()))
    else
    ck (inB x2 9) <|
    if (A 40 (ix x2)) = x1 then
    (some (.inl ()))
    else
    gv (x2 + 1) fun x2_59 =>
    lX8_wish_34 n x1 x2_59 I J A B
def sX8_wish (x1 : Int32) (I : Nat → Int32) (J : Nat → Int64) (A : Nat → Nat → Int32) (B : Nat → Nat → Int64) : Option ((Int32) × (Nat → Int32) × (Nat → Nat → Int32)) :=
(sX8_isJoint x1).bind fun r_1 =>
if r_1 = 0 then
((sX8_refuses (-1 : Int32) I J A B).bind fun (r_9, I) =>
some (r_9, I, A))
else
ck (inB ((48 : Int32) + x1) 8047) <|
if (A 1 (ix ((48 : Int32) + x1))) = 0 then
((sX8_refuses (-3 : Int32) I J A B).bind fun (r_28, I) =>
some (r_28, I, A))
else
(lX8_wish_34 FU x1 (0 : Int32) I J A B).bind fun o_34 => match o_34 with
| .inl _ =>
(sX8_refuses (-4 : Int32) I J A B).bind fun (r_55, I) =>
some (r_55, I, A)
| .inr _ =>
if (I 41) = (9 : Int32) then
((sX8_refuses (-5 : Int32) I J A B).bind fun (r_77, I) =>
some (r_77, I, A))
else
ck (inB (I 41) 9) <|
gv (va_up A 40 (upd (A 40) (ix (I 41)) x1)) fun A =>
gv (upd I 41 ((I 41) + (1 : Int32))) fun I =>
(sX8_good (I 41) I J A B).bind fun (r_106, I) =>
some (r_106, I, A)
set_option maxRecDepth 100000 in
set_option maxHeartbeats 8000000 in
theorem kX8_wish (l : Launch) (D : va_G) (cy : Nat → ClassId) (q : Nat → Nat) (x1 : Int32) (I : Nat → Int32) (J : Nat → Int64) (A : Nat → Nat → Int32) (B : Nat → Nat → Int64) (r : Int32) (I2 : Nat → Int32) (A2 : Nat → Nat → Int32) (hs : sX8_wish x1 I J A B = some (r, I2, A2)) : McI l yX8_wish cX8_wish 3 (some .int) 2 [.ref (q 46), .int x1] D cy q I J A B (some (.int r)) I2 J A2 B := by
  refine M_start rfl rfl (Nat.le_of_ble_eq_true rfl) ?_
  intro p e s m args below meth c H locs C hI ls hl
  have hl : lv_has ls 3 [(0, .ref (q 46)), (1, .int x1)] := hl
  rw [sX8_wish] at hs
  refine lv_iload_n C.1 C.2.1 dX8_wish_0 rfl (lv_at hl 1 rfl) ?_
  obtain ⟨r_1, hc, hs⟩ := bd_e hs
  refine S_call (h := 2) C (kX8_isJoint l _ _ hc) ml_X8_94 st_X8_isJoint ini_X8 co_X8_isJoint hyX8_isJoint rfl ⟨by decide, by decide⟩ hl.1 rfl (Nat.le_of_ble_eq_true rfl) dX8_wish_1 ⟨Nat.le_refl 0, Nat.le_refl 0, Nat.le_refl _, Nat.le_refl _⟩ ?_
  refine lv_if_ne (tgt := 13) C.1 C.2.1 dX8_wish_4 (by decide) (fun cn => ?_) (fun cn => ?_)
  · have hs := if_f cn hs
    refine lv_aload_n C.1 C.2.1 dX8_wish_13 rfl (lv_at hl 0 rfl) ?_
    refine mg_1 C hI dX8_wish_14 ?_
    refine lv_bipush (v := 48) C.1 C.2.1 dX8_wish_17 (by decide) ?_
    refine lv_iload_n C.1 C.2.1 dX8_wish_19 rfl (lv_at hl 1 rfl) ?_
    refine lv_iadd C.1 C.2.1 dX8_wish_20 ?_
    obtain ⟨hk, hs⟩ := ck_e hs
    refine ma_1 C hI hk dX8_wish_21 ?_
    refine lv_if_ne (tgt := 32) C.1 C.2.1 dX8_wish_22 (by decide) (fun cn => ?_) (fun cn => ?_)
    · have hs := if_f cn hs
      refine lv_iconst (v := 0) C.1 C.2.1 dX8_wish_32 (by decide) ?_
      refine lv_istore_n (lv' := [(2, .int (0 : Int32)), (0, .ref (q 46)), (1, .int x1)]) C.1 C.2.1 dX8_wish_33 rfl hl (by decide) rfl (fun ls hl => ?_)
      have KL_34 : ∀ (n : Nat) (x1 : Int32) (x2 : Int32) (I : Nat → Int32) (J : Nat → Int64) (A : Nat → Nat → Int32) (B : Nat → Nat → Int64) (o : (Unit) ⊕ (Unit)) (Q : State → Prop) (H : Heap) (locs : List Loc) (ls : Array Slot), lX8_wish_34 n x1 x2 I J A B = some o → MI D cy s s.heap H locs q I J A B → lv_has ls 3 [(0, .ref (q 46)), (1, .int x1), (2, .int x2)] → (∀ (H : Heap) (locs : List Loc) (ls : Array Slot), o = (.inl ()) → MI D cy s s.heap H locs q I J A B → lv_has ls 3 [(0, .ref (q 46))] → W p l e (rmL 2) s m args below meth c H locs 0 0 Q (F0 m 52 ls [])) → (∀ (H : Heap) (locs : List Loc) (ls : Array Slot), o = (.inr ()) → MI D cy s s.heap H locs q I J A B → lv_has ls 3 [(0, .ref (q 46)), (1, .int x1)] → W p l e (rmL 2) s m args below meth c H locs 0 0 Q (F0 m 65 ls [])) → W p l e (rmL 2) s m args below meth c H locs 0 0 Q (F0 m 34 ls []) := by
        intro n; induction n with
        | zero => intro x1 x2 I J A B o Q H locs ls hs; rw [lX8_wish_34] at hs; cases hs
        | succ n ih =>
          intro x1 x2 I J A B o Q H locs ls hs hI hl kk0 kk1
          rw [lX8_wish_34] at hs
          refine lv_iload_n C.1 C.2.1 dX8_wish_34 rfl (lv_at hl 2 rfl) ?_
          refine lv_aload_n C.1 C.2.1 dX8_wish_35 rfl (lv_at hl 0 rfl) ?_
          refine mg_41 C hI dX8_wish_36 ?_
          refine lv_icmp_ge (tgt := 65) C.1 C.2.1 dX8_wish_39 (by decide) (fun cn => ?_) (fun cn => ?_)
          · have hs := if_t cn hs
            have eo := (Option.some.inj hs).symm
            exact kk1  _ _ _ eo hI (lv_sub hl [0, 1] rfl)
          · have hs := if_f cn hs
            refine lv_aload_n C.1 C.2.1 dX8_wish_42 rfl (lv_at hl 0 rfl) ?_
            refine mg_40 C hI dX8_wish_43 ?_
            refine lv_iload_n C.1 C.2.1 dX8_wish_46 rfl (lv_at hl 2 rfl) ?_
            obtain ⟨hk, hs⟩ := ck_e hs
            refine ma_40 C hI hk dX8_wish_47 ?_
            refine lv_iload_n C.1 C.2.1 dX8_wish_48 rfl (lv_at hl 1 rfl) ?_
            refine lv_icmp_ne (tgt := 59) C.1 C.2.1 dX8_wish_49 (by decide) (fun cn => ?_) (fun cn => ?_)
            · have hs := if_f cn hs
              obtain ⟨x2_59, ex2_59⟩ : ∃ y : Int32, y = (x2 + 1) := ⟨_, rfl⟩
              have hs := gv_at ex2_59 hs
              refine lv_iinc (v := x2_59) (lv' := [(2, .int x2_59), (0, .ref (q 46)), (1, .int x1)]) C.1 C.2.1 dX8_wish_59 hl (k := 2) rfl (by rw [ex2_59]; rfl) (by decide) rfl (fun ls hl => ?_)
              refine lv_goto (tgt := 34) C.1 C.2.1 dX8_wish_62 (by decide) ?_
              exact ih _ _ _ _ _ _ _ _ _ _ _ hs hI (lv_sub hl [1, 2, 0] rfl) kk0 kk1
            · have hs := if_t cn hs
              have eo := (Option.some.inj hs).symm
              exact kk0  _ _ _ eo hI (lv_sub hl [0] rfl)
      obtain ⟨o_34, hL, hs⟩ := bd_e hs
      refine KL_34 FU _ _ _ _ _ _ _ _ _ _ _ hL hI (lv_sub hl [1, 2, 0] rfl) (fun H locs ls eo hI hl => ?_) (fun H locs ls eo hI hl => ?_)
      · rw [eo] at hs
        refine lv_aload_n C.1 C.2.1 dX8_wish_52 rfl (lv_at hl 0 rfl) ?_
        refine lv_bipush (v := -4) C.1 C.2.1 dX8_wish_53 (by decide) ?_
        obtain ⟨⟨r_55, I⟩, hc, hs⟩ := bd_e hs
        refine M_call C hI (kX8_refuses l D cy q _ _ _ _ _ _ _ hc) ml_X8_87 im_X8_refuses se_X8_refuses ini_X8 co_X8_refuses hyX8_refuses rfl ⟨by decide, by decide⟩ hl.1 rfl (Nat.le_of_ble_eq_true rfl) dX8_wish_55 (fun H locs hI => ?_)
        obtain ⟨rfl, rfl, rfl⟩ := so3 hs
        exact M_iret C hI dX8_wish_58
      · rw [eo] at hs
        refine lv_aload_n C.1 C.2.1 dX8_wish_65 rfl (lv_at hl 0 rfl) ?_
        refine mg_41 C hI dX8_wish_66 ?_
        refine lv_bipush (v := 9) C.1 C.2.1 dX8_wish_69 (by decide) ?_
        refine lv_icmp_ne (tgt := 81) C.1 C.2.1 dX8_wish_71 (by decide) (fun cn => ?_) (fun cn => ?_)
        · have hs := if_f cn hs
          refine lv_aload_n C.1 C.2.1 dX8_wish_81 rfl (lv_at hl 0 rfl) ?_
          refine mg_40 C hI dX8_wish_82 ?_
          refine lv_aload_n C.1 C.2.1 dX8_wish_85 rfl (lv_at hl 0 rfl) ?_
          refine mg_41 C hI dX8_wish_86 ?_
          refine lv_iload_n C.1 C.2.1 dX8_wish_89 rfl (lv_at hl 1 rfl) ?_
          obtain ⟨hk, hs⟩ := ck_e hs
          refine ms_40 C hI hk dX8_wish_90 (fun H locs hI => ?_)
          have hs := gv_be hs
          refine lv_aload_n C.1 C.2.1 dX8_wish_91 rfl (lv_at hl 0 rfl) ?_
          refine lv_dup C.1 C.2.1 dX8_wish_92 rfl ?_
          refine mg_41 C hI dX8_wish_93 ?_
          refine lv_iconst (v := 1) C.1 C.2.1 dX8_wish_96 (by decide) ?_
          refine lv_iadd C.1 C.2.1 dX8_wish_97 ?_
          refine mp_41 C hI dX8_wish_98 (fun H locs hI => ?_)
          have hs := gv_be hs
          refine lv_aload_n C.1 C.2.1 dX8_wish_101 rfl (lv_at hl 0 rfl) ?_
          refine lv_aload_n C.1 C.2.1 dX8_wish_102 rfl (lv_at hl 0 rfl) ?_
          refine mg_41 C hI dX8_wish_103 ?_
          obtain ⟨⟨r_106, I⟩, hc, hs⟩ := bd_e hs
          refine M_call C hI (kX8_good l D cy q _ _ _ _ _ _ _ hc) ml_X8_91 im_X8_good se_X8_good ini_X8 co_X8_good hyX8_good rfl ⟨by decide, by decide⟩ hl.1 rfl (Nat.le_of_ble_eq_true rfl) dX8_wish_106 (fun H locs hI => ?_)
          obtain ⟨rfl, rfl, rfl⟩ := so3 hs
          exact M_iret C hI dX8_wish_109
        · have hs := if_t cn hs
          refine lv_aload_n C.1 C.2.1 dX8_wish_74 rfl (lv_at hl 0 rfl) ?_
          refine lv_bipush (v := -5) C.1 C.2.1 dX8_wish_75 (by decide) ?_
          obtain ⟨⟨r_77, I⟩, hc, hs⟩ := bd_e hs
          refine M_call C hI (kX8_refuses l D cy q _ _ _ _ _ _ _ hc) ml_X8_87 im_X8_refuses se_X8_refuses ini_X8 co_X8_refuses hyX8_refuses rfl ⟨by decide, by decide⟩ hl.1 rfl (Nat.le_of_ble_eq_true rfl) dX8_wish_77 (fun H locs hI => ?_)
          obtain ⟨rfl, rfl, rfl⟩ := so3 hs
          exact M_iret C hI dX8_wish_80
    · have hs := if_t cn hs
      refine lv_aload_n C.1 C.2.1 dX8_wish_25 rfl (lv_at hl 0 rfl) ?_
      refine lv_bipush (v := -3) C.1 C.2.1 dX8_wish_26 (by decide) ?_
      obtain ⟨⟨r_28, I⟩, hc, hs⟩ := bd_e hs
      refine M_call C hI (kX8_refuses l D cy q _ _ _ _ _ _ _ hc) ml_X8_87 im_X8_refuses se_X8_refuses ini_X8 co_X8_refuses hyX8_refuses rfl ⟨by decide, by decide⟩ hl.1 rfl (Nat.le_of_ble_eq_true rfl) dX8_wish_28 (fun H locs hI => ?_)
      obtain ⟨rfl, rfl, rfl⟩ := so3 hs
      exact M_iret C hI dX8_wish_31
  · have hs := if_t cn hs
    refine lv_aload_n C.1 C.2.1 dX8_wish_7 rfl (lv_at hl 0 rfl) ?_
    refine lv_iconst (v := -1) C.1 C.2.1 dX8_wish_8 (by decide) ?_
    obtain ⟨⟨r_9, I⟩, hc, hs⟩ := bd_e hs
    refine M_call C hI (kX8_refuses l D cy q _ _ _ _ _ _ _ hc) ml_X8_87 im_X8_refuses se_X8_refuses ini_X8 co_X8_refuses hyX8_refuses rfl ⟨by decide, by decide⟩ hl.1 rfl (Nat.le_of_ble_eq_true rfl) dX8_wish_9 (fun H locs hI => ?_)
    obtain ⟨rfl, rfl, rfl⟩ := so3 hs
    exact M_iret C hI dX8_wish_12

def sX8_find (x1 : Int32) (x2 : Int32) (x3 : Int32) (I : Nat → Int32) (J : Nat → Int64) (A : Nat → Nat → Int32) (B : Nat → Nat → Int64) : Option ((Int32) × (Nat → Int32) × (Nat → Nat → Int32)) :=
(sX8_isEight x1).bind fun r_1 =>
if r_1 = 0 then
((sX8_refuses (-1 : Int32) I J A B).bind fun (r_23, I) =>
some (r_23, I, A))
else
(sX8_isEight x2).bind fun r_8 =>
if r_8 = 0 then
((sX8_refuses (-1 : Int32) I J A B).bind fun (r_23, I) =>
some (r_23, I, A))
else
(sX8_isDay x3).bind fun r_15 =>
if r_15 = 0 then
((sX8_refuses (-1 : Int32) I J A B).bind fun (r_23, I) =>
some (r_23, I, A))
else
(sX8_knows x1 x2 x3 I J A B).bind fun A =>
(sX8_good (0 : Int32) I J A B).bind fun (r_36, I) =>
some (r_36, I, A)
set_option maxRecDepth 100000 in
set_option maxHeartbeats 8000000 in
theorem kX8_find (l : Launch) (D : va_G) (cy : Nat → ClassId) (q : Nat → Nat) (x1 : Int32) (x2 : Int32) (x3 : Int32) (I : Nat → Int32) (J : Nat → Int64) (A : Nat → Nat → Int32) (B : Nat → Nat → Int64) (r : Int32) (I2 : Nat → Int32) (A2 : Nat → Nat → Int32) (hs : sX8_find x1 x2 x3 I J A B = some (r, I2, A2)) : McI l yX8_find cX8_find 4 (some .int) 2 [.ref (q 46), .int x1, .int x2, .int x3] D cy q I J A B (some (.int r)) I2 J A2 B := by
  refine M_start rfl rfl (Nat.le_of_ble_eq_true rfl) ?_
  intro p e s m args below meth c H locs C hI ls hl
  have hl : lv_has ls 4 [(0, .ref (q 46)), (1, .int x1), (2, .int x2), (3, .int x3)] := hl
  rw [sX8_find] at hs
  refine lv_iload_n C.1 C.2.1 dX8_find_0 rfl (lv_at hl 1 rfl) ?_
  obtain ⟨r_1, hc, hs⟩ := bd_e hs
  refine S_call (h := 2) C (kX8_isEight l _ _ hc) ml_X8_359 st_X8_isEight ini_X8 co_X8_isEight hyX8_isEight rfl ⟨by decide, by decide⟩ hl.1 rfl (Nat.le_of_ble_eq_true rfl) dX8_find_1 ⟨Nat.le_refl 0, Nat.le_refl 0, Nat.le_refl _, Nat.le_refl _⟩ ?_
  refine lv_if_eq (tgt := 21) C.1 C.2.1 dX8_find_4 (by decide) (fun cn => ?_) (fun cn => ?_)
  · have hs := if_t cn hs
    refine lv_aload_n C.1 C.2.1 dX8_find_21 rfl (lv_at hl 0 rfl) ?_
    refine lv_iconst (v := -1) C.1 C.2.1 dX8_find_22 (by decide) ?_
    obtain ⟨⟨r_23, I⟩, hc, hs⟩ := bd_e hs
    refine M_call C hI (kX8_refuses l D cy q _ _ _ _ _ _ _ hc) ml_X8_87 im_X8_refuses se_X8_refuses ini_X8 co_X8_refuses hyX8_refuses rfl ⟨by decide, by decide⟩ hl.1 rfl (Nat.le_of_ble_eq_true rfl) dX8_find_23 (fun H locs hI => ?_)
    obtain ⟨rfl, rfl, rfl⟩ := so3 hs
    exact M_iret C hI dX8_find_26
  · have hs := if_f cn hs
    refine lv_iload_n C.1 C.2.1 dX8_find_7 rfl (lv_at hl 2 rfl) ?_
    obtain ⟨r_8, hc, hs⟩ := bd_e hs
    refine S_call (h := 2) C (kX8_isEight l _ _ hc) ml_X8_359 st_X8_isEight ini_X8 co_X8_isEight hyX8_isEight rfl ⟨by decide, by decide⟩ hl.1 rfl (Nat.le_of_ble_eq_true rfl) dX8_find_8 ⟨Nat.le_refl 0, Nat.le_refl 0, Nat.le_refl _, Nat.le_refl _⟩ ?_
    refine lv_if_eq (tgt := 21) C.1 C.2.1 dX8_find_11 (by decide) (fun cn => ?_) (fun cn => ?_)
    · have hs := if_t cn hs
      refine lv_aload_n C.1 C.2.1 dX8_find_21 rfl (lv_at hl 0 rfl) ?_
      refine lv_iconst (v := -1) C.1 C.2.1 dX8_find_22 (by decide) ?_
      obtain ⟨⟨r_23, I⟩, hc, hs⟩ := bd_e hs
      refine M_call C hI (kX8_refuses l D cy q _ _ _ _ _ _ _ hc) ml_X8_87 im_X8_refuses se_X8_refuses ini_X8 co_X8_refuses hyX8_refuses rfl ⟨by decide, by decide⟩ hl.1 rfl (Nat.le_of_ble_eq_true rfl) dX8_find_23 (fun H locs hI => ?_)
      obtain ⟨rfl, rfl, rfl⟩ := so3 hs
      exact M_iret C hI dX8_find_26
    · have hs := if_f cn hs
      refine lv_iload_n C.1 C.2.1 dX8_find_14 rfl (lv_at hl 3 rfl) ?_
      obtain ⟨r_15, hc, hs⟩ := bd_e hs
      refine S_call (h := 2) C (kX8_isDay l _ _ hc) ml_X8_309 st_X8_isDay ini_X8 co_X8_isDay hyX8_isDay rfl ⟨by decide, by decide⟩ hl.1 rfl (Nat.le_of_ble_eq_true rfl) dX8_find_15 ⟨Nat.le_refl 0, Nat.le_refl 0, Nat.le_refl _, Nat.le_refl _⟩ ?_
      refine lv_if_ne (tgt := 27) C.1 C.2.1 dX8_find_18 (by decide) (fun cn => ?_) (fun cn => ?_)
      · have hs := if_f cn hs
        refine lv_aload_n C.1 C.2.1 dX8_find_27 rfl (lv_at hl 0 rfl) ?_
        refine lv_iload_n C.1 C.2.1 dX8_find_28 rfl (lv_at hl 1 rfl) ?_
        refine lv_iload_n C.1 C.2.1 dX8_find_29 rfl (lv_at hl 2 rfl) ?_
        refine lv_iload_n C.1 C.2.1 dX8_find_30 rfl (lv_at hl 3 rfl) ?_
        obtain ⟨A, hc, hs⟩ := bd_e hs
        refine M_call C hI (kX8_knows l D cy q _ _ _ _ _ _ _ _ hc) ml_X8_362 im_X8_knows se_X8_knows ini_X8 co_X8_knows hyX8_knows rfl ⟨by decide, by decide⟩ hl.1 rfl (Nat.le_of_ble_eq_true rfl) dX8_find_31 (fun H locs hI => ?_)
        refine lv_aload_n C.1 C.2.1 dX8_find_34 rfl (lv_at hl 0 rfl) ?_
        refine lv_iconst (v := 0) C.1 C.2.1 dX8_find_35 (by decide) ?_
        obtain ⟨⟨r_36, I⟩, hc, hs⟩ := bd_e hs
        refine M_call C hI (kX8_good l D cy q _ _ _ _ _ _ _ hc) ml_X8_91 im_X8_good se_X8_good ini_X8 co_X8_good hyX8_good rfl ⟨by decide, by decide⟩ hl.1 rfl (Nat.le_of_ble_eq_true rfl) dX8_find_36 (fun H locs hI => ?_)
        obtain ⟨rfl, rfl, rfl⟩ := so3 hs
        exact M_iret C hI dX8_find_39
      · have hs := if_t cn hs
        refine lv_aload_n C.1 C.2.1 dX8_find_21 rfl (lv_at hl 0 rfl) ?_
        refine lv_iconst (v := -1) C.1 C.2.1 dX8_find_22 (by decide) ?_
        obtain ⟨⟨r_23, I⟩, hc, hs⟩ := bd_e hs
        refine M_call C hI (kX8_refuses l D cy q _ _ _ _ _ _ _ hc) ml_X8_87 im_X8_refuses se_X8_refuses ini_X8 co_X8_refuses hyX8_refuses rfl ⟨by decide, by decide⟩ hl.1 rfl (Nat.le_of_ble_eq_true rfl) dX8_find_23 (fun H locs hI => ?_)
        obtain ⟨rfl, rfl, rfl⟩ := so3 hs
        exact M_iret C hI dX8_find_26

def sX8_tell (x1 : Int32) (x2 : Int32) (x3 : Int32) (x4 : Int32) (I : Nat → Int32) (J : Nat → Int64) (A : Nat → Nat → Int32) (B : Nat → Nat → Int64) : Option ((Int32) × (Nat → Int32) × (Nat → Nat → Int32)) :=
(sX8_isEight x1).bind fun r_1 =>
if r_1 = 0 then
((sX8_refuses (-1 : Int32) I J A B).bind fun (r_31, I) =>
some (r_31, I, A))
else
(sX8_isEight x2).bind fun r_8 =>
if r_8 = 0 then
((sX8_refuses (-1 : Int32) I J A B).bind fun (r_31, I) =>
some (r_31, I, A))
else
(sX8_isEight x3).bind fun r_15 =>
if r_15 = 0 then
((sX8_refuses (-1 : Int32) I J A B).bind fun (r_31, I) =>
some (r_31, I, A))
else
(sX8_isDay x4).bind fun r_23 =>
if r_23 = 0 then
((sX8_refuses (-1 : Int32) I J A B).bind fun (r_31, I) =>
some (r_31, I, A))
else
(sX8_knewBy x1 x3 x4 I J A B).bind fun r_40 =>
if r_40 = 0 then
((sX8_refuses (-3 : Int32) I J A B).bind fun (r_49, I) =>
some (r_49, I, A))
else
(sX8_knows x2 x3 x4 I J A B).bind fun A =>
(sX8_good (0 : Int32) I J A B).bind fun (r_63, I) =>
some (r_63, I, A)
set_option maxRecDepth 100000 in
set_option maxHeartbeats 8000000 in
theorem kX8_tell (l : Launch) (D : va_G) (cy : Nat → ClassId) (q : Nat → Nat) (x1 : Int32) (x2 : Int32) (x3 : Int32) (x4 : Int32) (I : Nat → Int32) (J : Nat → Int64) (A : Nat → Nat → Int32) (B : Nat → Nat → Int64) (r : Int32) (I2 : Nat → Int32) (A2 : Nat → Nat → Int32) (hs : sX8_tell x1 x2 x3 x4 I J A B = some (r, I2, A2)) : McI l yX8_tell cX8_tell 5 (some .int) 2 [.ref (q 46), .int x1, .int x2, .int x3, .int x4] D cy q I J A B (some (.int r)) I2 J A2 B := by
  refine M_start rfl rfl (Nat.le_of_ble_eq_true rfl) ?_
  intro p e s m args below meth c H locs C hI ls hl
  have hl : lv_has ls 5 [(0, .ref (q 46)), (1, .int x1), (2, .int x2), (3, .int x3), (4, .int x4)] := hl
  rw [sX8_tell] at hs
  refine lv_iload_n C.1 C.2.1 dX8_tell_0 rfl (lv_at hl 1 rfl) ?_
  obtain ⟨r_1, hc, hs⟩ := bd_e hs
  refine S_call (h := 2) C (kX8_isEight l _ _ hc) ml_X8_359 st_X8_isEight ini_X8 co_X8_isEight hyX8_isEight rfl ⟨by decide, by decide⟩ hl.1 rfl (Nat.le_of_ble_eq_true rfl) dX8_tell_1 ⟨Nat.le_refl 0, Nat.le_refl 0, Nat.le_refl _, Nat.le_refl _⟩ ?_
  refine lv_if_eq (tgt := 29) C.1 C.2.1 dX8_tell_4 (by decide) (fun cn => ?_) (fun cn => ?_)
  · have hs := if_t cn hs
    refine lv_aload_n C.1 C.2.1 dX8_tell_29 rfl (lv_at hl 0 rfl) ?_
    refine lv_iconst (v := -1) C.1 C.2.1 dX8_tell_30 (by decide) ?_
    obtain ⟨⟨r_31, I⟩, hc, hs⟩ := bd_e hs
    refine M_call C hI (kX8_refuses l D cy q _ _ _ _ _ _ _ hc) ml_X8_87 im_X8_refuses se_X8_refuses ini_X8 co_X8_refuses hyX8_refuses rfl ⟨by decide, by decide⟩ hl.1 rfl (Nat.le_of_ble_eq_true rfl) dX8_tell_31 (fun H locs hI => ?_)
    obtain ⟨rfl, rfl, rfl⟩ := so3 hs
    exact M_iret C hI dX8_tell_34
  · have hs := if_f cn hs
    refine lv_iload_n C.1 C.2.1 dX8_tell_7 rfl (lv_at hl 2 rfl) ?_
    obtain ⟨r_8, hc, hs⟩ := bd_e hs
    refine S_call (h := 2) C (kX8_isEight l _ _ hc) ml_X8_359 st_X8_isEight ini_X8 co_X8_isEight hyX8_isEight rfl ⟨by decide, by decide⟩ hl.1 rfl (Nat.le_of_ble_eq_true rfl) dX8_tell_8 ⟨Nat.le_refl 0, Nat.le_refl 0, Nat.le_refl _, Nat.le_refl _⟩ ?_
    refine lv_if_eq (tgt := 29) C.1 C.2.1 dX8_tell_11 (by decide) (fun cn => ?_) (fun cn => ?_)
    · have hs := if_t cn hs
      refine lv_aload_n C.1 C.2.1 dX8_tell_29 rfl (lv_at hl 0 rfl) ?_
      refine lv_iconst (v := -1) C.1 C.2.1 dX8_tell_30 (by decide) ?_
      obtain ⟨⟨r_31, I⟩, hc, hs⟩ := bd_e hs
      refine M_call C hI (kX8_refuses l D cy q _ _ _ _ _ _ _ hc) ml_X8_87 im_X8_refuses se_X8_refuses ini_X8 co_X8_refuses hyX8_refuses rfl ⟨by decide, by decide⟩ hl.1 rfl (Nat.le_of_ble_eq_true rfl) dX8_tell_31 (fun H locs hI => ?_)
      obtain ⟨rfl, rfl, rfl⟩ := so3 hs
      exact M_iret C hI dX8_tell_34
    · have hs := if_f cn hs
      refine lv_iload_n C.1 C.2.1 dX8_tell_14 rfl (lv_at hl 3 rfl) ?_
      obtain ⟨r_15, hc, hs⟩ := bd_e hs
      refine S_call (h := 2) C (kX8_isEight l _ _ hc) ml_X8_359 st_X8_isEight ini_X8 co_X8_isEight hyX8_isEight rfl ⟨by decide, by decide⟩ hl.1 rfl (Nat.le_of_ble_eq_true rfl) dX8_tell_15 ⟨Nat.le_refl 0, Nat.le_refl 0, Nat.le_refl _, Nat.le_refl _⟩ ?_
      refine lv_if_eq (tgt := 29) C.1 C.2.1 dX8_tell_18 (by decide) (fun cn => ?_) (fun cn => ?_)
      · have hs := if_t cn hs
        refine lv_aload_n C.1 C.2.1 dX8_tell_29 rfl (lv_at hl 0 rfl) ?_
        refine lv_iconst (v := -1) C.1 C.2.1 dX8_tell_30 (by decide) ?_
        obtain ⟨⟨r_31, I⟩, hc, hs⟩ := bd_e hs
        refine M_call C hI (kX8_refuses l D cy q _ _ _ _ _ _ _ hc) ml_X8_87 im_X8_refuses se_X8_refuses ini_X8 co_X8_refuses hyX8_refuses rfl ⟨by decide, by decide⟩ hl.1 rfl (Nat.le_of_ble_eq_true rfl) dX8_tell_31 (fun H locs hI => ?_)
        obtain ⟨rfl, rfl, rfl⟩ := so3 hs
        exact M_iret C hI dX8_tell_34
      · have hs := if_f cn hs
        refine lv_iload C.1 C.2.1 dX8_tell_21 (lv_at hl 4 rfl) ?_
        obtain ⟨r_23, hc, hs⟩ := bd_e hs
        refine S_call (h := 2) C (kX8_isDay l _ _ hc) ml_X8_309 st_X8_isDay ini_X8 co_X8_isDay hyX8_isDay rfl ⟨by decide, by decide⟩ hl.1 rfl (Nat.le_of_ble_eq_true rfl) dX8_tell_23 ⟨Nat.le_refl 0, Nat.le_refl 0, Nat.le_refl _, Nat.le_refl _⟩ ?_
        refine lv_if_ne (tgt := 35) C.1 C.2.1 dX8_tell_26 (by decide) (fun cn => ?_) (fun cn => ?_)
        · have hs := if_f cn hs
          refine lv_aload_n C.1 C.2.1 dX8_tell_35 rfl (lv_at hl 0 rfl) ?_
          refine lv_iload_n C.1 C.2.1 dX8_tell_36 rfl (lv_at hl 1 rfl) ?_
          refine lv_iload_n C.1 C.2.1 dX8_tell_37 rfl (lv_at hl 3 rfl) ?_
          refine lv_iload C.1 C.2.1 dX8_tell_38 (lv_at hl 4 rfl) ?_
          obtain ⟨r_40, hc, hs⟩ := bd_e hs
          refine M_call C hI (kX8_knewBy l D cy q _ _ _ _ _ _ _ _ hc) ml_X8_365 im_X8_knewBy se_X8_knewBy ini_X8 co_X8_knewBy hyX8_knewBy rfl ⟨by decide, by decide⟩ hl.1 rfl (Nat.le_of_ble_eq_true rfl) dX8_tell_40 (fun H locs hI => ?_)
          refine lv_if_ne (tgt := 53) C.1 C.2.1 dX8_tell_43 (by decide) (fun cn => ?_) (fun cn => ?_)
          · have hs := if_f cn hs
            refine lv_aload_n C.1 C.2.1 dX8_tell_53 rfl (lv_at hl 0 rfl) ?_
            refine lv_iload_n C.1 C.2.1 dX8_tell_54 rfl (lv_at hl 2 rfl) ?_
            refine lv_iload_n C.1 C.2.1 dX8_tell_55 rfl (lv_at hl 3 rfl) ?_
            refine lv_iload C.1 C.2.1 dX8_tell_56 (lv_at hl 4 rfl) ?_
            obtain ⟨A, hc, hs⟩ := bd_e hs
            refine M_call C hI (kX8_knows l D cy q _ _ _ _ _ _ _ _ hc) ml_X8_362 im_X8_knows se_X8_knows ini_X8 co_X8_knows hyX8_knows rfl ⟨by decide, by decide⟩ hl.1 rfl (Nat.le_of_ble_eq_true rfl) dX8_tell_58 (fun H locs hI => ?_)
            refine lv_aload_n C.1 C.2.1 dX8_tell_61 rfl (lv_at hl 0 rfl) ?_
            refine lv_iconst (v := 0) C.1 C.2.1 dX8_tell_62 (by decide) ?_
            obtain ⟨⟨r_63, I⟩, hc, hs⟩ := bd_e hs
            refine M_call C hI (kX8_good l D cy q _ _ _ _ _ _ _ hc) ml_X8_91 im_X8_good se_X8_good ini_X8 co_X8_good hyX8_good rfl ⟨by decide, by decide⟩ hl.1 rfl (Nat.le_of_ble_eq_true rfl) dX8_tell_63 (fun H locs hI => ?_)
            obtain ⟨rfl, rfl, rfl⟩ := so3 hs
            exact M_iret C hI dX8_tell_66
          · have hs := if_t cn hs
            refine lv_aload_n C.1 C.2.1 dX8_tell_46 rfl (lv_at hl 0 rfl) ?_
            refine lv_bipush (v := -3) C.1 C.2.1 dX8_tell_47 (by decide) ?_
            obtain ⟨⟨r_49, I⟩, hc, hs⟩ := bd_e hs
            refine M_call C hI (kX8_refuses l D cy q _ _ _ _ _ _ _ hc) ml_X8_87 im_X8_refuses se_X8_refuses ini_X8 co_X8_refuses hyX8_refuses rfl ⟨by decide, by decide⟩ hl.1 rfl (Nat.le_of_ble_eq_true rfl) dX8_tell_49 (fun H locs hI => ?_)
            obtain ⟨rfl, rfl, rfl⟩ := so3 hs
            exact M_iret C hI dX8_tell_52
        · have hs := if_t cn hs
          refine lv_aload_n C.1 C.2.1 dX8_tell_29 rfl (lv_at hl 0 rfl) ?_
          refine lv_iconst (v := -1) C.1 C.2.1 dX8_tell_30 (by decide) ?_
          obtain ⟨⟨r_31, I⟩, hc, hs⟩ := bd_e hs
          refine M_call C hI (kX8_refuses l D cy q _ _ _ _ _ _ _ hc) ml_X8_87 im_X8_refuses se_X8_refuses ini_X8 co_X8_refuses hyX8_refuses rfl ⟨by decide, by decide⟩ hl.1 rfl (Nat.le_of_ble_eq_true rfl) dX8_tell_31 (fun H locs hI => ?_)
          obtain ⟨rfl, rfl, rfl⟩ := so3 hs
          exact M_iret C hI dX8_tell_34

def sX8_knew (x1 : Int32) (x2 : Int32) (I : Nat → Int32) (J : Nat → Int64) (A : Nat → Nat → Int32) (B : Nat → Nat → Int64) : Option ((Int32)) :=
(sX8_isEight x1).bind fun r_1 =>
if r_1 = 0 then
(some (-1 : Int32))
else
(sX8_isEight x2).bind fun r_8 =>
if r_8 = 0 then
(some (-1 : Int32))
else
ck (inB (((573 : Int32) + ((8 : Int32) * x1)) + x2) 8047) <|
some (A 1 (ix (((573 : Int32) + ((8 : Int32) * x1)) + x2)))
set_option maxRecDepth 100000 in
set_option maxHeartbeats 8000000 in
theorem kX8_knew (l : Launch) (D : va_G) (cy : Nat → ClassId) (q : Nat → Nat) (x1 : Int32) (x2 : Int32) (I : Nat → Int32) (J : Nat → Int64) (A : Nat → Nat → Int32) (B : Nat → Nat → Int64) (r : Int32) (hs : sX8_knew x1 x2 I J A B = some r) : McI l yX8_knew cX8_knew 3 (some .int) 2 [.ref (q 46), .int x1, .int x2] D cy q I J A B (some (.int r)) I J A B := by
  refine M_start rfl rfl (Nat.le_of_ble_eq_true rfl) ?_
  intro p e s m args below meth c H locs C hI ls hl
  have hl : lv_has ls 3 [(0, .ref (q 46)), (1, .int x1), (2, .int x2)] := hl
  rw [sX8_knew] at hs
  refine lv_iload_n C.1 C.2.1 dX8_knew_0 rfl (lv_at hl 1 rfl) ?_
  obtain ⟨r_1, hc, hs⟩ := bd_e hs
  refine S_call (h := 2) C (kX8_isEight l _ _ hc) ml_X8_359 st_X8_isEight ini_X8 co_X8_isEight hyX8_isEight rfl ⟨by decide, by decide⟩ hl.1 rfl (Nat.le_of_ble_eq_true rfl) dX8_knew_1 ⟨Nat.le_refl 0, Nat.le_refl 0, Nat.le_refl _, Nat.le_refl _⟩ ?_
  refine lv_if_eq (tgt := 32) C.1 C.2.1 dX8_knew_4 (by decide) (fun cn => ?_) (fun cn => ?_)
  · have hs := if_t cn hs
    refine lv_iconst (v := -1) C.1 C.2.1 dX8_knew_32 (by decide) ?_
    obtain rfl := Option.some.inj hs
    exact M_iret C hI dX8_knew_33
  · have hs := if_f cn hs
    refine lv_iload_n C.1 C.2.1 dX8_knew_7 rfl (lv_at hl 2 rfl) ?_
    obtain ⟨r_8, hc, hs⟩ := bd_e hs
    refine S_call (h := 2) C (kX8_isEight l _ _ hc) ml_X8_359 st_X8_isEight ini_X8 co_X8_isEight hyX8_isEight rfl ⟨by decide, by decide⟩ hl.1 rfl (Nat.le_of_ble_eq_true rfl) dX8_knew_8 ⟨Nat.le_refl 0, Nat.le_refl 0, Nat.le_refl _, Nat.le_refl _⟩ ?_
    refine lv_if_eq (tgt := 32) C.1 C.2.1 dX8_knew_11 (by decide) (fun cn => ?_) (fun cn => ?_)
    · have hs := if_t cn hs
      refine lv_iconst (v := -1) C.1 C.2.1 dX8_knew_32 (by decide) ?_
      obtain rfl := Option.some.inj hs
      exact M_iret C hI dX8_knew_33
    · have hs := if_f cn hs
      refine lv_aload_n C.1 C.2.1 dX8_knew_14 rfl (lv_at hl 0 rfl) ?_
      refine mg_1 C hI dX8_knew_15 ?_
      refine lv_sipush (v := 573) C.1 C.2.1 dX8_knew_18 (by decide) ?_
      refine lv_bipush (v := 8) C.1 C.2.1 dX8_knew_21 (by decide) ?_
      refine lv_iload_n C.1 C.2.1 dX8_knew_23 rfl (lv_at hl 1 rfl) ?_
      refine lv_imul C.1 C.2.1 dX8_knew_24 ?_
      refine lv_iadd C.1 C.2.1 dX8_knew_25 ?_
      refine lv_iload_n C.1 C.2.1 dX8_knew_26 rfl (lv_at hl 2 rfl) ?_
      refine lv_iadd C.1 C.2.1 dX8_knew_27 ?_
      obtain ⟨hk, hs⟩ := ck_e hs
      refine ma_1 C hI hk dX8_knew_28 ?_
      refine lv_goto (tgt := 33) C.1 C.2.1 dX8_knew_29 (by decide) ?_
      obtain rfl := Option.some.inj hs
      exact M_iret C hI dX8_knew_33

def lX8_owed_56 : Nat → Int32 → Int32 → Int32 → Int32 → Int32 → Int32 → Int32 → (Nat → Int32) → (Nat → Int64) → (Nat → Nat → Int32) → (Nat → Nat → Int64) → Option (Int32)
  | 0, _, _, _, _, _, _, _, _, _, _, _ => none
  | n + 1, x1, x2, x3, x4, x5, x6, x7, I, J, A, B =>
    if (8 : Int32) ≤ x7 then
    (some x6)
    else
    if x6 = 0 then
    (if x7 = x1 then
    (gv (x7 + 1) fun x7_95 =>
    lX8_owed_56 n x1 x2 x3 x4 x5 (0 : Int32) x7_95 I J A B)
    else
    (sX8_knewBy x7 x5 (x2 - x3) I J A B).bind fun r_82 =>
    if r_82 = 0 then
    (gv (x7 + 1) fun x7_95 =>
    lX8_owed_56 n x1 x2 x3 x4 x5 (0 : Int32) x7_95 I J A B)
    else
    gv (x7 + 1) fun x7_95 =>
    lX8_owed_56 n x1 x2 x3 x4 x5 (1 : Int32) x7_95 I J A B)
    else
    gv (x7 + 1) fun x7_95 =>
    lX8_owed_56 n x1 x2 x3 x4 x5 (1 : Int32) x7_95 I J A B
def lX8_owed_29 : Nat → Int32 → Int32 → Int32 → Int32 → Int32 → (Nat → Int32) → (Nat → Int64) → (Nat → Nat → Int32) → (Nat → Nat → Int64) → Option (Int32)
  | 0, _, _, _, _, _, _, _, _, _ => none
  | n + 1, x1, x2, x3, x4, x5, I, J, A, B =>
    if (8 : Int32) ≤ x5 then
    (some x4)
    else
    (sX8_knewBy x1 x5 x2 I J A B).bind fun r_41 =>
    if r_41 = 0 then
    ((lX8_owed_56 FU x1 x2 x3 x4 x5 (0 : Int32) (0 : Int32) I J A B).bind fun x6_56 =>
    gv (if x6_56 = 0 then (0 : Int32) else (1 : Int32)) fun v_113 =>
    gv (x4 + v_113) fun x4_114 =>
    gv (x5 + 1) fun x5_116 =>
    lX8_owed_29 n x1 x2 x3 x4_114 x5_116 I J A B)
    else
    gv (x5 + 1) fun x5_116 =>
    lX8_owed_29 n x1 x2 x3 x4 x5_116 I J A B
def sX8_owed (x1 : Int32) (x2 : Int32) (x3 : Int32) (I : Nat → Int32) (J : Nat → Int64) (A : Nat → Nat → Int32) (B : Nat → Nat → Int64) : Option ((Int32)) :=
(sX8_isEight x1).bind fun r_1 =>
if r_1 = 0 then
(some (-1 : Int32))
else
(sX8_isDay x2).bind fun r_8 =>
if r_8 = 0 then
(some (-1 : Int32))
else
(sX8_isDay x3).bind fun r_15 =>
if r_15 = 0 then
(some (-1 : Int32))
else
(lX8_owed_29 FU x1 x2 x3 (0 : Int32) (0 : Int32) I J A B).bind fun x4_29 =>
some x4_29
set_option maxRecDepth 100000 in
set_option maxHeartbeats 8000000 in
theorem kX8_owed (l : Launch) (D : va_G) (cy : Nat → ClassId) (q : Nat → Nat) (x1 : Int32) (x2 : Int32) (x3 : Int32) (I : Nat → Int32) (J : Nat → Int64) (A : Nat → Nat → Int32) (B : Nat → Nat → Int64) (r : Int32) (hs : sX8_owed x1 x2 x3 I J A B = some r) : McI l yX8_owed cX8_owed 8 (some .int) 2 [.ref (q 46), .int x1, .int x2, .int x3] D cy q I J A B (some (.int r)) I J A B := by
  refine M_start rfl rfl (Nat.le_of_ble_eq_true rfl) ?_
  intro p e s m args below meth c H locs C hI ls hl
  have hl : lv_has ls 8 [(0, .ref (q 46)), (1, .int x1), (2, .int x2), (3, .int x3)] := hl
  rw [sX8_owed] at hs
  refine lv_iload_n C.1 C.2.1 dX8_owed_0 rfl (lv_at hl 1 rfl) ?_
  obtain ⟨r_1, hc, hs⟩ := bd_e hs
  refine S_call (h := 2) C (kX8_isEight l _ _ hc) ml_X8_359 st_X8_isEight ini_X8 co_X8_isEight hyX8_isEight rfl ⟨by decide, by decide⟩ hl.1 rfl (Nat.le_of_ble_eq_true rfl) dX8_owed_1 ⟨Nat.le_refl 0, Nat.le_refl 0, Nat.le_refl _, Nat.le_refl _⟩ ?_
  refine lv_if_eq (tgt := 21) C.1 C.2.1 dX8_owed_4 (by decide) (fun cn => ?_) (fun cn => ?_)
  · have hs := if_t cn hs
    refine lv_iconst (v := -1) C.1 C.2.1 dX8_owed_21 (by decide) ?_
    obtain rfl := Option.some.inj hs
    exact M_iret C hI dX8_owed_22
  · have hs := if_f cn hs
    refine lv_iload_n C.1 C.2.1 dX8_owed_7 rfl (lv_at hl 2 rfl) ?_
    obtain ⟨r_8, hc, hs⟩ := bd_e hs
    refine S_call (h := 2) C (kX8_isDay l _ _ hc) ml_X8_309 st_X8_isDay ini_X8 co_X8_isDay hyX8_isDay rfl ⟨by decide, by decide⟩ hl.1 rfl (Nat.le_of_ble_eq_true rfl) dX8_owed_8 ⟨Nat.le_refl 0, Nat.le_refl 0, Nat.le_refl _, Nat.le_refl _⟩ ?_
    refine lv_if_eq (tgt := 21) C.1 C.2.1 dX8_owed_11 (by decide) (fun cn => ?_) (fun cn => ?_)
    · have hs := if_t cn hs
      refine lv_iconst (v := -1) C.1 C.2.1 dX8_owed_21 (by decide) ?_
      obtain rfl := Option.some.inj hs
      exact M_iret C hI dX8_owed_22
    · have hs := if_f cn hs
      refine lv_iload_n C.1 C.2.1 dX8_owed_14 rfl (lv_at hl 3 rfl) ?_
      obtain ⟨r_15, hc, hs⟩ := bd_e hs
      refine S_call (h := 2) C (kX8_isDay l _ _ hc) ml_X8_309 st_X8_isDay ini_X8 co_X8_isDay hyX8_isDay rfl ⟨by decide, by decide⟩ hl.1 rfl (Nat.le_of_ble_eq_true rfl) dX8_owed_15 ⟨Nat.le_refl 0, Nat.le_refl 0, Nat.le_refl _, Nat.le_refl _⟩ ?_
      refine lv_if_ne (tgt := 23) C.1 C.2.1 dX8_owed_18 (by decide) (fun cn => ?_) (fun cn => ?_)
      · have hs := if_f cn hs
        refine lv_iconst (v := 0) C.1 C.2.1 dX8_owed_23 (by decide) ?_
        refine lv_istore (lv' := [(4, .int (0 : Int32)), (0, .ref (q 46)), (1, .int x1), (2, .int x2), (3, .int x3)]) C.1 C.2.1 dX8_owed_24 hl (by decide) rfl (fun ls hl => ?_)
        refine lv_iconst (v := 0) C.1 C.2.1 dX8_owed_26 (by decide) ?_
        refine lv_istore (lv' := [(5, .int (0 : Int32)), (4, .int (0 : Int32)), (0, .ref (q 46)), (1, .int x1), (2, .int x2), (3, .int x3)]) C.1 C.2.1 dX8_owed_27 hl (by decide) rfl (fun ls hl => ?_)
        have KL_29 : ∀ (n : Nat) (x1 : Int32) (x2 : Int32) (x3 : Int32) (x4 : Int32) (x5 : Int32) (I : Nat → Int32) (J : Nat → Int64) (A : Nat → Nat → Int32) (B : Nat → Nat → Int64) (o : Int32) (Q : State → Prop) (H : Heap) (locs : List Loc) (ls : Array Slot), lX8_owed_29 n x1 x2 x3 x4 x5 I J A B = some o → MI D cy s s.heap H locs q I J A B → lv_has ls 8 [(0, .ref (q 46)), (1, .int x1), (2, .int x2), (3, .int x3), (4, .int x4), (5, .int x5)] → (∀ (o4_0 : Int32) (H : Heap) (locs : List Loc) (ls : Array Slot), o = o4_0 → MI D cy s s.heap H locs q I J A B → lv_has ls 8 [(4, .int o4_0)] → W p l e (rmL 2) s m args below meth c H locs 0 0 Q (F0 m 122 ls [])) → W p l e (rmL 2) s m args below meth c H locs 0 0 Q (F0 m 29 ls []) := by
          intro n; induction n with
          | zero => intro x1 x2 x3 x4 x5 I J A B o Q H locs ls hs; rw [lX8_owed_29] at hs; cases hs
          | succ n ih =>
            intro x1 x2 x3 x4 x5 I J A B o Q H locs ls hs hI hl kk0
            rw [lX8_owed_29] at hs
            refine lv_iload C.1 C.2.1 dX8_owed_29 (lv_at hl 5 rfl) ?_
            refine lv_bipush (v := 8) C.1 C.2.1 dX8_owed_31 (by decide) ?_
            refine lv_icmp_ge (tgt := 122) C.1 C.2.1 dX8_owed_33 (by decide) (fun cn => ?_) (fun cn => ?_)
            · have hs := if_t cn hs
              have eo := (Option.some.inj hs).symm
              exact kk0 _ _ _ _ eo hI (lv_sub hl [4] rfl)
            · have hs := if_f cn hs
              refine lv_aload_n C.1 C.2.1 dX8_owed_36 rfl (lv_at hl 0 rfl) ?_
              refine lv_iload_n C.1 C.2.1 dX8_owed_37 rfl (lv_at hl 1 rfl) ?_
              refine lv_iload C.1 C.2.1 dX8_owed_38 (lv_at hl 5 rfl) ?_
              refine lv_iload_n C.1 C.2.1 dX8_owed_40 rfl (lv_at hl 2 rfl) ?_
              obtain ⟨r_41, hc, hs⟩ := bd_e hs
              refine M_call C hI (kX8_knewBy l D cy q _ _ _ _ _ _ _ _ hc) ml_X8_365 im_X8_knewBy se_X8_knewBy ini_X8 co_X8_knewBy hyX8_knewBy rfl ⟨by decide, by decide⟩ hl.1 rfl (Nat.le_of_ble_eq_true rfl) dX8_owed_41 (fun H locs hI => ?_)
              refine lv_if_eq (tgt := 50) C.1 C.2.1 dX8_owed_44 (by decide) (fun cn => ?_) (fun cn => ?_)
              · have hs := if_t cn hs
                refine lv_iconst (v := 0) C.1 C.2.1 dX8_owed_50 (by decide) ?_
                refine lv_istore (lv' := [(6, .int (0 : Int32)), (0, .ref (q 46)), (1, .int x1), (2, .int x2), (3, .int x3), (4, .int x4), (5, .int x5)]) C.1 C.2.1 dX8_owed_51 hl (by decide) rfl (fun ls hl => ?_)
                refine lv_iconst (v := 0) C.1 C.2.1 dX8_owed_53 (by decide) ?_
                refine lv_istore (lv' := [(7, .int (0 : Int32)), (6, .int (0 : Int32)), (0, .ref (q 46)), (1, .int x1), (2, .int x2), (3, .int x3), (4, .int x4), (5, .int x5)]) C.1 C.2.1 dX8_owed_54 hl (by decide) rfl (fun ls hl => ?_)
                have KL_56 : ∀ (n : Nat) (x1 : Int32) (x2 : Int32) (x3 : Int32) (x4 : Int32) (x5 : Int32) (x6 : Int32) (x7 : Int32) (I : Nat → Int32) (J : Nat → Int64) (A : Nat → Nat → Int32) (B : Nat → Nat → Int64) (o : Int32) (Q : State → Prop) (H : Heap) (locs : List Loc) (ls : Array Slot), lX8_owed_56 n x1 x2 x3 x4 x5 x6 x7 I J A B = some o → MI D cy s s.heap H locs q I J A B → lv_has ls 8 [(0, .ref (q 46)), (1, .int x1), (2, .int x2), (3, .int x3), (4, .int x4), (5, .int x5), (6, .int x6), (7, .int x7)] → (∀ (o6_0 : Int32) (H : Heap) (locs : List Loc) (ls : Array Slot), o = o6_0 → MI D cy s s.heap H locs q I J A B → lv_has ls 8 [(0, .ref (q 46)), (1, .int x1), (2, .int x2), (3, .int x3), (4, .int x4), (5, .int x5), (6, .int o6_0)] → W p l e (rmL 2) s m args below meth c H locs 0 0 Q (F0 m 101 ls [])) → W p l e (rmL 2) s m args below meth c H locs 0 0 Q (F0 m 56 ls []) := by
                  intro n; induction n with
                  | zero => intro x1 x2 x3 x4 x5 x6 x7 I J A B o Q H locs ls hs; rw [lX8_owed_56] at hs; cases hs
                  | succ n ih =>
                    intro x1 x2 x3 x4 x5 x6 x7 I J A B o Q H locs ls hs hI hl kk0
                    rw [lX8_owed_56] at hs
                    refine lv_iload C.1 C.2.1 dX8_owed_56 (lv_at hl 7 rfl) ?_
                    refine lv_bipush (v := 8) C.1 C.2.1 dX8_owed_58 (by decide) ?_
                    refine lv_icmp_ge (tgt := 101) C.1 C.2.1 dX8_owed_60 (by decide) (fun cn => ?_) (fun cn => ?_)
                    · have hs := if_t cn hs
                      have eo := (Option.some.inj hs).symm
                      exact kk0 _ _ _ _ eo hI (lv_sub hl [0, 1, 2, 3, 4, 5, 6] rfl)
                    · have hs := if_f cn hs
                      refine lv_iload C.1 C.2.1 dX8_owed_63 (lv_at hl 6 rfl) ?_
                      refine lv_if_ne (tgt := 88) C.1 C.2.1 dX8_owed_65 (by decide) (fun cn => ?_) (fun cn => ?_)
                      · have hs := if_f cn hs
                        refine lv_iconst (v := 1) C.1 C.2.1 dX8_owed_88 (by decide) ?_
                        refine lv_goto (tgt := 93) C.1 C.2.1 dX8_owed_89 (by decide) ?_
                        refine lv_istore (lv' := [(6, .int (1 : Int32)), (0, .ref (q 46)), (1, .int x1), (2, .int x2), (3, .int x3), (4, .int x4), (5, .int x5), (7, .int x7)]) C.1 C.2.1 dX8_owed_93 hl (by decide) rfl (fun ls hl => ?_)
                        obtain ⟨x7_95, ex7_95⟩ : ∃ y : Int32, y = (x7 + 1) := ⟨_, rfl⟩
                        have hs := gv_at ex7_95 hs
                        refine lv_iinc (v := x7_95) (lv' := [(7, .int x7_95), (6, .int (1 : Int32)), (0, .ref (q 46)), (1, .int x1), (2, .int x2), (3, .int x3), (4, .int x4), (5, .int x5)]) C.1 C.2.1 dX8_owed_95 hl (k := 7) rfl (by rw [ex7_95]; rfl) (by decide) rfl (fun ls hl => ?_)
                        refine lv_goto (tgt := 56) C.1 C.2.1 dX8_owed_98 (by decide) ?_
                        exact ih _ _ _ _ _ _ _ _ _ _ _ _ _ _ _ _ hs hI (lv_sub hl [2, 3, 4, 5, 6, 7, 1, 0] rfl) kk0
                      · have hs := if_t cn hs
                        refine lv_iload C.1 C.2.1 dX8_owed_68 (lv_at hl 7 rfl) ?_
                        refine lv_iload_n C.1 C.2.1 dX8_owed_70 rfl (lv_at hl 1 rfl) ?_
                        refine lv_icmp_eq (tgt := 92) C.1 C.2.1 dX8_owed_71 (by decide) (fun cn => ?_) (fun cn => ?_)
                        · have hs := if_t cn hs
                          refine lv_iconst (v := 0) C.1 C.2.1 dX8_owed_92 (by decide) ?_
                          refine lv_istore (lv' := [(6, .int (0 : Int32)), (0, .ref (q 46)), (1, .int x1), (2, .int x2), (3, .int x3), (4, .int x4), (5, .int x5), (7, .int x7)]) C.1 C.2.1 dX8_owed_93 hl (by decide) rfl (fun ls hl => ?_)
                          obtain ⟨x7_95, ex7_95⟩ : ∃ y : Int32, y = (x7 + 1) := ⟨_, rfl⟩
                          have hs := gv_at ex7_95 hs
                          refine lv_iinc (v := x7_95) (lv' := [(7, .int x7_95), (6, .int (0 : Int32)), (0, .ref (q 46)), (1, .int x1), (2, .int x2), (3, .int x3), (4, .int x4), (5, .int x5)]) C.1 C.2.1 dX8_owed_95 hl (k := 7) rfl (by rw [ex7_95]; rfl) (by decide) rfl (fun ls hl => ?_)
                          refine lv_goto (tgt := 56) C.1 C.2.1 dX8_owed_98 (by decide) ?_
                          exact ih _ _ _ _ _ _ _ _ _ _ _ _ _ _ _ _ hs hI (lv_sub hl [2, 3, 4, 5, 6, 7, 1, 0] rfl) kk0
                        · have hs := if_f cn hs
                          refine lv_aload_n C.1 C.2.1 dX8_owed_74 rfl (lv_at hl 0 rfl) ?_
                          refine lv_iload C.1 C.2.1 dX8_owed_75 (lv_at hl 7 rfl) ?_
                          refine lv_iload C.1 C.2.1 dX8_owed_77 (lv_at hl 5 rfl) ?_
                          refine lv_iload_n C.1 C.2.1 dX8_owed_79 rfl (lv_at hl 2 rfl) ?_
                          refine lv_iload_n C.1 C.2.1 dX8_owed_80 rfl (lv_at hl 3 rfl) ?_
                          refine lv_isub C.1 C.2.1 dX8_owed_81 ?_
                          obtain ⟨r_82, hc, hs⟩ := bd_e hs
                          refine M_call C hI (kX8_knewBy l D cy q _ _ _ _ _ _ _ _ hc) ml_X8_365 im_X8_knewBy se_X8_knewBy ini_X8 co_X8_knewBy hyX8_knewBy rfl ⟨by decide, by decide⟩ hl.1 rfl (Nat.le_of_ble_eq_true rfl) dX8_owed_82 (fun H locs hI => ?_)
                          refine lv_if_eq (tgt := 92) C.1 C.2.1 dX8_owed_85 (by decide) (fun cn => ?_) (fun cn => ?_)
                          · have hs := if_t cn hs
                            refine lv_iconst (v := 0) C.1 C.2.1 dX8_owed_92 (by decide) ?_
                            refine lv_istore (lv' := [(6, .int (0 : Int32)), (0, .ref (q 46)), (1, .int x1), (2, .int x2), (3, .int x3), (4, .int x4), (5, .int x5), (7, .int x7)]) C.1 C.2.1 dX8_owed_93 hl (by decide) rfl (fun ls hl => ?_)
                            obtain ⟨x7_95, ex7_95⟩ : ∃ y : Int32, y = (x7 + 1) := ⟨_, rfl⟩
                            have hs := gv_at ex7_95 hs
                            refine lv_iinc (v := x7_95) (lv' := [(7, .int x7_95), (6, .int (0 : Int32)), (0, .ref (q 46)), (1, .int x1), (2, .int x2), (3, .int x3), (4, .int x4), (5, .int x5)]) C.1 C.2.1 dX8_owed_95 hl (k := 7) rfl (by rw [ex7_95]; rfl) (by decide) rfl (fun ls hl => ?_)
                            refine lv_goto (tgt := 56) C.1 C.2.1 dX8_owed_98 (by decide) ?_
                            exact ih _ _ _ _ _ _ _ _ _ _ _ _ _ _ _ _ hs hI (lv_sub hl [2, 3, 4, 5, 6, 7, 1, 0] rfl) kk0
                          · have hs := if_f cn hs
                            refine lv_iconst (v := 1) C.1 C.2.1 dX8_owed_88 (by decide) ?_
                            refine lv_goto (tgt := 93) C.1 C.2.1 dX8_owed_89 (by decide) ?_
                            refine lv_istore (lv' := [(6, .int (1 : Int32)), (0, .ref (q 46)), (1, .int x1), (2, .int x2), (3, .int x3), (4, .int x4), (5, .int x5), (7, .int x7)]) C.1 C.2.1 dX8_owed_93 hl (by decide) rfl (fun ls hl => ?_)
                            obtain ⟨x7_95, ex7_95⟩ : ∃ y : Int32, y = (x7 + 1) := ⟨_, rfl⟩
                            have hs := gv_at ex7_95 hs
                            refine lv_iinc (v := x7_95) (lv' := [(7, .int x7_95), (6, .int (1 : Int32)), (0, .ref (q 46)), (1, .int x1), (2, .int x2), (3, .int x3), (4, .int x4), (5, .int x5)]) C.1 C.2.1 dX8_owed_95 hl (k := 7) rfl (by rw [ex7_95]; rfl) (by decide) rfl (fun ls hl => ?_)
                            refine lv_goto (tgt := 56) C.1 C.2.1 dX8_owed_98 (by decide) ?_
                            exact ih _ _ _ _ _ _ _ _ _ _ _ _ _ _ _ _ hs hI (lv_sub hl [2, 3, 4, 5, 6, 7, 1, 0] rfl) kk0
                obtain ⟨x6_56, hL, hs⟩ := bd_e hs
                refine KL_56 FU _ _ _ _ _ _ _ _ _ _ _ _ _ _ _ _ hL hI (lv_sub hl [2, 3, 4, 5, 6, 7, 1, 0] rfl) (fun z0 H locs ls eo hI hl => ?_)
                subst eo
                refine lv_iload C.1 C.2.1 dX8_owed_101 (lv_at hl 4 rfl) ?_
                refine lv_iload C.1 C.2.1 dX8_owed_103 (lv_at hl 6 rfl) ?_
                obtain ⟨v_113, ev_113, hs⟩ := gv_ex hs
                have KP_113 : W p l e (rmL 2) s m args below meth c H locs 0 0 Q (F0 m 113 ls [.int v_113, .int x4]) := by
                  refine lv_iadd C.1 C.2.1 dX8_owed_113 ?_
                  refine lv_topi (fun x4_114 ex4_114 => ?_)
                  have hs := gv_at ex4_114 hs
                  refine lv_istore (lv' := [(4, .int x4_114), (0, .ref (q 46)), (1, .int x1), (2, .int x2), (3, .int x3), (5, .int x5), (6, .int x6_56)]) C.1 C.2.1 dX8_owed_114 hl (by decide) rfl (fun ls hl => ?_)
                  obtain ⟨x5_116, ex5_116⟩ : ∃ y : Int32, y = (x5 + 1) := ⟨_, rfl⟩
                  have hs := gv_at ex5_116 hs
                  refine lv_iinc (v := x5_116) (lv' := [(5, .int x5_116), (4, .int x4_114), (0, .ref (q 46)), (1, .int x1), (2, .int x2), (3, .int x3), (6, .int x6_56)]) C.1 C.2.1 dX8_owed_116 hl (k := 5) rfl (by rw [ex5_116]; rfl) (by decide) rfl (fun ls hl => ?_)
                  refine lv_goto (tgt := 29) C.1 C.2.1 dX8_owed_119 (by decide) ?_
                  exact ih _ _ _ _ _ _ _ _ _ _ _ _ _ _ hs hI (lv_sub hl [2, 3, 4, 5, 1, 0] rfl) kk0
                refine lv_if_eq (tgt := 112) C.1 C.2.1 dX8_owed_105 (by decide) (fun cn => ?_) (fun cn => ?_)
                · have ev_113 := if_t' cn ev_113
                  refine lv_iconst (v := 0) C.1 C.2.1 dX8_owed_112 (by decide) ?_
                  subst ev_113
                  exact KP_113
                · have ev_113 := if_f' cn ev_113
                  refine lv_iconst (v := 1) C.1 C.2.1 dX8_owed_108 (by decide) ?_
                  refine lv_goto (tgt := 113) C.1 C.2.1 dX8_owed_109 (by decide) ?_
                  subst ev_113
                  exact KP_113
              · have hs := if_f cn hs
                refine lv_goto (tgt := 116) C.1 C.2.1 dX8_owed_47 (by decide) ?_
                obtain ⟨x5_116, ex5_116⟩ : ∃ y : Int32, y = (x5 + 1) := ⟨_, rfl⟩
                have hs := gv_at ex5_116 hs
                refine lv_iinc (v := x5_116) (lv' := [(5, .int x5_116), (0, .ref (q 46)), (1, .int x1), (2, .int x2), (3, .int x3), (4, .int x4)]) C.1 C.2.1 dX8_owed_116 hl (k := 5) rfl (by rw [ex5_116]; rfl) (by decide) rfl (fun ls hl => ?_)
                refine lv_goto (tgt := 29) C.1 C.2.1 dX8_owed_119 (by decide) ?_
                exact ih _ _ _ _ _ _ _ _ _ _ _ _ _ _ hs hI (lv_sub hl [1, 2, 3, 4, 5, 0] rfl) kk0
        obtain ⟨x4_29, hL, hs⟩ := bd_e hs
        refine KL_29 FU _ _ _ _ _ _ _ _ _ _ _ _ _ _ hL hI (lv_sub hl [2, 3, 4, 5, 1, 0] rfl) (fun z0 H locs ls eo hI hl => ?_)
        subst eo
        refine lv_iload C.1 C.2.1 dX8_owed_122 (lv_at hl 0 rfl) ?_
        obtain rfl := Option.some.inj hs
        exact M_iret C hI dX8_owed_124
      · have hs := if_t cn hs
        refine lv_iconst (v := -1) C.1 C.2.1 dX8_owed_21 (by decide) ?_
        obtain rfl := Option.some.inj hs
        exact M_iret C hI dX8_owed_22

def sX8_call (x1 : Int32) (I : Nat → Int32) (J : Nat → Int64) (A : Nat → Nat → Int32) (B : Nat → Nat → Int64) : Option ((Int32)) :=
(sX8_in x1 (0 : Int32) (100 : Int32)).bind fun r_4 =>
if r_4 = 0 then
(some (-1 : Int32))
else
(sX8_callOf x1 I J A B).bind fun r_12 =>
some r_12
set_option maxRecDepth 100000 in
set_option maxHeartbeats 8000000 in
theorem kX8_call (l : Launch) (D : va_G) (cy : Nat → ClassId) (q : Nat → Nat) (x1 : Int32) (I : Nat → Int32) (J : Nat → Int64) (A : Nat → Nat → Int32) (B : Nat → Nat → Int64) (r : Int32) (hs : sX8_call x1 I J A B = some r) : McI l yX8_call cX8_call 2 (some .int) 2 [.ref (q 46), .int x1] D cy q I J A B (some (.int r)) I J A B := by
  refine M_start rfl rfl (Nat.le_of_ble_eq_true rfl) ?_
  intro p e s m args below meth c H locs C hI ls hl
  have hl : lv_has ls 2 [(0, .ref (q 46)), (1, .int x1)] := hl
  rw [sX8_call] at hs
  refine lv_iload_n C.1 C.2.1 dX8_call_0 rfl (lv_at hl 1 rfl) ?_
  refine lv_iconst (v := 0) C.1 C.2.1 dX8_call_1 (by decide) ?_
  refine lv_bipush (v := 100) C.1 C.2.1 dX8_call_2 (by decide) ?_
  obtain ⟨r_4, hc, hs⟩ := bd_e hs
  refine S_call (h := 2) C (kX8_in l _ _ _ _ hc) ml_X8_83 st_X8_in ini_X8 co_X8_in hyX8_in rfl ⟨by decide, by decide⟩ hl.1 rfl (Nat.le_of_ble_eq_true rfl) dX8_call_4 ⟨Nat.le_refl 0, Nat.le_refl 0, Nat.le_refl _, Nat.le_refl _⟩ ?_
  refine lv_if_eq (tgt := 18) C.1 C.2.1 dX8_call_7 (by decide) (fun cn => ?_) (fun cn => ?_)
  · have hs := if_t cn hs
    refine lv_iconst (v := -1) C.1 C.2.1 dX8_call_18 (by decide) ?_
    obtain rfl := Option.some.inj hs
    exact M_iret C hI dX8_call_19
  · have hs := if_f cn hs
    refine lv_aload_n C.1 C.2.1 dX8_call_10 rfl (lv_at hl 0 rfl) ?_
    refine lv_iload_n C.1 C.2.1 dX8_call_11 rfl (lv_at hl 1 rfl) ?_
    obtain ⟨r_12, hc, hs⟩ := bd_e hs
    refine M_call C hI (kX8_callOf l D cy q _ _ _ _ _ _ hc) ml_X8_368 im_X8_callOf se_X8_callOf ini_X8 co_X8_callOf hyX8_callOf rfl ⟨by decide, by decide⟩ hl.1 rfl (Nat.le_of_ble_eq_true rfl) dX8_call_12 (fun H locs hI => ?_)
    refine lv_goto (tgt := 19) C.1 C.2.1 dX8_call_15 (by decide) ?_
    obtain rfl := Option.some.inj hs
    exact M_iret C hI dX8_call_19

def lX8_when_17 : Nat → Int32 → Int32 → (Nat → Int32) → (Nat → Int64) → (Nat → Nat → Int32) → (Nat → Nat → Int64) → Option (Int32)
  | 0, _, _, _, _, _, _ => none
  | n + 1, x1, x2, I, J, A, B =>
    if (100 : Int32) < x2 then
    (some x1)
    else
    (sX8_callOf x2 I J A B).bind fun r_25 =>
    (sX8_callOf x1 I J A B).bind fun r_30 =>
    if r_30 < r_25 then
    (gv (x2 + 1) fun x2_38 =>
    lX8_when_17 n x1 x2_38 I J A B)
    else
    gv (x2 + 1) fun x2_38 =>
    lX8_when_17 n x2 x2_38 I J A B
def sX8_when (I : Nat → Int32) (J : Nat → Int64) (A : Nat → Nat → Int32) (B : Nat → Nat → Int64) : Option ((Int32)) :=
if (A 1 (ix (1637 : Int32))) = 0 then
(some (-1 : Int32))
else
(lX8_when_17 FU (0 : Int32) (1 : Int32) I J A B).bind fun x1_17 =>
some x1_17
set_option maxRecDepth 100000 in
set_option maxHeartbeats 8000000 in
theorem kX8_when (l : Launch) (D : va_G) (cy : Nat → ClassId) (q : Nat → Nat) (I : Nat → Int32) (J : Nat → Int64) (A : Nat → Nat → Int32) (B : Nat → Nat → Int64) (r : Int32) (hs : sX8_when I J A B = some r) : McI l yX8_when cX8_when 3 (some .int) 2 [.ref (q 46)] D cy q I J A B (some (.int r)) I J A B := by
  refine M_start rfl rfl (Nat.le_of_ble_eq_true rfl) ?_
  intro p e s m args below meth c H locs C hI ls hl
  have hl : lv_has ls 3 [(0, .ref (q 46))] := hl
  rw [sX8_when] at hs
  refine lv_aload_n C.1 C.2.1 dX8_when_0 rfl (lv_at hl 0 rfl) ?_
  refine mg_1 C hI dX8_when_1 ?_
  refine lv_sipush (v := 1637) C.1 C.2.1 dX8_when_4 (by decide) ?_
  refine ma_1 C hI (by decide) dX8_when_7 ?_
  refine lv_if_ne (tgt := 13) C.1 C.2.1 dX8_when_8 (by decide) (fun cn => ?_) (fun cn => ?_)
  · have hs := if_f cn hs
    refine lv_iconst (v := 0) C.1 C.2.1 dX8_when_13 (by decide) ?_
    refine lv_istore_n (lv' := [(1, .int (0 : Int32)), (0, .ref (q 46))]) C.1 C.2.1 dX8_when_14 rfl hl (by decide) rfl (fun ls hl => ?_)
    refine lv_iconst (v := 1) C.1 C.2.1 dX8_when_15 (by decide) ?_
    refine lv_istore_n (lv' := [(2, .int (1 : Int32)), (1, .int (0 : Int32)), (0, .ref (q 46))]) C.1 C.2.1 dX8_when_16 rfl hl (by decide) rfl (fun ls hl => ?_)
    have KL_17 : ∀ (n : Nat) (x1 : Int32) (x2 : Int32) (I : Nat → Int32) (J : Nat → Int64) (A : Nat → Nat → Int32) (B : Nat → Nat → Int64) (o : Int32) (Q : State → Prop) (H : Heap) (locs : List Loc) (ls : Array Slot), lX8_when_17 n x1 x2 I J A B = some o → MI D cy s s.heap H locs q I J A B → lv_has ls 3 [(0, .ref (q 46)), (1, .int x1), (2, .int x2)] → (∀ (o1_0 : Int32) (H : Heap) (locs : List Loc) (ls : Array Slot), o = o1_0 → MI D cy s s.heap H locs q I J A B → lv_has ls 3 [(1, .int o1_0)] → W p l e (rmL 2) s m args below meth c H locs 0 0 Q (F0 m 44 ls [])) → W p l e (rmL 2) s m args below meth c H locs 0 0 Q (F0 m 17 ls []) := by
      intro n; induction n with
      | zero => intro x1 x2 I J A B o Q H locs ls hs; rw [lX8_when_17] at hs; cases hs
      | succ n ih =>
        intro x1 x2 I J A B o Q H locs ls hs hI hl kk0
        rw [lX8_when_17] at hs
        refine lv_iload_n C.1 C.2.1 dX8_when_17 rfl (lv_at hl 2 rfl) ?_
        refine lv_bipush (v := 100) C.1 C.2.1 dX8_when_18 (by decide) ?_
        refine lv_icmp_gt (tgt := 44) C.1 C.2.1 dX8_when_20 (by decide) (fun cn => ?_) (fun cn => ?_)
        · have hs := if_t cn hs
          have eo := (Option.some.inj hs).symm
          exact kk0 _ _ _ _ eo hI (lv_sub hl [1] rfl)
        · have hs := if_f cn hs
          refine lv_aload_n C.1 C.2.1 dX8_when_23 rfl (lv_at hl 0 rfl) ?_
          refine lv_iload_n C.1 C.2.1 dX8_when_24 rfl (lv_at hl 2 rfl) ?_
          obtain ⟨r_25, hc, hs⟩ := bd_e hs
          refine M_call C hI (kX8_callOf l D cy q _ _ _ _ _ _ hc) ml_X8_368 im_X8_callOf se_X8_callOf ini_X8 co_X8_callOf hyX8_callOf rfl ⟨by decide, by decide⟩ hl.1 rfl (Nat.le_of_ble_eq_true rfl) dX8_when_25 (fun H locs hI => ?_)
          refine lv_aload_n C.1 C.2.1 dX8_when_28 rfl (lv_at hl 0 rfl) ?_
          refine lv_iload_n C.1 C.2.1 dX8_when_29 rfl (lv_at hl 1 rfl) ?_
          obtain ⟨r_30, hc, hs⟩ := bd_e hs
          refine M_call C hI (kX8_callOf l D cy q _ _ _ _ _ _ hc) ml_X8_368 im_X8_callOf se_X8_callOf ini_X8 co_X8_callOf hyX8_callOf rfl ⟨by decide, by decide⟩ hl.1 rfl (Nat.le_of_ble_eq_true rfl) dX8_when_30 (fun H locs hI => ?_)
          refine lv_icmp_gt (tgt := 38) C.1 C.2.1 dX8_when_33 (by decide) (fun cn => ?_) (fun cn => ?_)
          · have hs := if_t cn hs
            obtain ⟨x2_38, ex2_38⟩ : ∃ y : Int32, y = (x2 + 1) := ⟨_, rfl⟩
            have hs := gv_at ex2_38 hs
            refine lv_iinc (v := x2_38) (lv' := [(2, .int x2_38), (0, .ref (q 46)), (1, .int x1)]) C.1 C.2.1 dX8_when_38 hl (k := 2) rfl (by rw [ex2_38]; rfl) (by decide) rfl (fun ls hl => ?_)
            refine lv_goto (tgt := 17) C.1 C.2.1 dX8_when_41 (by decide) ?_
            exact ih _ _ _ _ _ _ _ _ _ _ _ hs hI (lv_sub hl [1, 2, 0] rfl) kk0
          · have hs := if_f cn hs
            refine lv_iload_n C.1 C.2.1 dX8_when_36 rfl (lv_at hl 2 rfl) ?_
            refine lv_istore_n (lv' := [(1, .int x2), (0, .ref (q 46)), (2, .int x2)]) C.1 C.2.1 dX8_when_37 rfl hl (by decide) rfl (fun ls hl => ?_)
            obtain ⟨x2_38, ex2_38⟩ : ∃ y : Int32, y = (x2 + 1) := ⟨_, rfl⟩
            have hs := gv_at ex2_38 hs
            refine lv_iinc (v := x2_38) (lv' := [(2, .int x2_38), (1, .int x2), (0, .ref (q 46))]) C.1 C.2.1 dX8_when_38 hl (k := 2) rfl (by rw [ex2_38]; rfl) (by decide) rfl (fun ls hl => ?_)
            refine lv_goto (tgt := 17) C.1 C.2.1 dX8_when_41 (by decide) ?_
            exact ih _ _ _ _ _ _ _ _ _ _ _ hs hI (lv_sub hl [2, 1, 0] rfl) kk0
    obtain ⟨x1_17, hL, hs⟩ := bd_e hs
    refine KL_17 FU _ _ _ _ _ _ _ _ _ _ _ hL hI (lv_sub hl [2, 1, 0] rfl) (fun z0 H locs ls eo hI hl => ?_)
    subst eo
    refine lv_iload_n C.1 C.2.1 dX8_when_44 rfl (lv_at hl 0 rfl) ?_
    obtain rfl := Option.some.inj hs
    exact M_iret C hI dX8_when_45
  · have hs := if_t cn hs
    refine lv_iconst (v := -1) C.1 C.2.1 dX8_when_11 (by decide) ?_
    obtain rfl := Option.some.inj hs
    exact M_iret C hI dX8_when_12

def sX8_tension (x1 : Int32) (x2 : Int32) (x3 : Int32) (I : Nat → Int32) (J : Nat → Int64) (A : Nat → Nat → Int32) (B : Nat → Nat → Int64) : Option ((Int64) × (Nat → Int64) × (Nat → Nat → Int32) × (Nat → Nat → Int64)) :=
(sX8_isWind x1 I J A B).bind fun r_2 =>
if r_2 = 0 then
(some ((-1000000000000 : Int64), J, A, B))
else
(sX8_isJoint x2).bind fun r_9 =>
if r_9 = 0 then
(some ((-1000000000000 : Int64), J, A, B))
else
(sX8_in x3 (0 : Int32) (1 : Int32)).bind fun r_18 =>
if r_18 = 0 then
(some ((-1000000000000 : Int64), J, A, B))
else
(sX8_noneGone  I J A B).bind fun A =>
(sX8_lays x1 x3 (x2 / (8 : Int32)) I J A B).bind fun (r_39, J, B) =>
(sX8_pulls x2 (1 : Int32) I J A B).bind fun J =>
(sX8_thousand (J 12) (J 13)).bind fun r_57 =>
some (r_57, J, A, B)
set_option maxRecDepth 100000 in
set_option maxHeartbeats 8000000 in
theorem kX8_tension (l : Launch) (D : va_G) (cy : Nat → ClassId) (q : Nat → Nat) (x1 : Int32) (x2 : Int32) (x3 : Int32) (I : Nat → Int32) (J : Nat → Int64) (A : Nat → Nat → Int32) (B : Nat → Nat → Int64) (r : Int64) (J2 : Nat → Int64) (A2 : Nat → Nat → Int32) (B2 : Nat → Nat → Int64) (hs : sX8_tension x1 x2 x3 I J A B = some (r, J2, A2, B2)) : McI l yX8_tension cX8_tension 4 (some .long) 3 [.ref (q 46), .int x1, .int x2, .int x3] D cy q I J A B (some (.long r)) I J2 A2 B2 := by
  refine M_start rfl rfl (Nat.le_of_ble_eq_true rfl) ?_
  intro p e s m args below meth c H locs C hI ls hl
  have hl : lv_has ls 4 [(0, .ref (q 46)), (1, .int x1), (2, .int x2), (3, .int x3)] := hl
  rw [sX8_tension] at hs
  refine lv_aload_n C.1 C.2.1 dX8_tension_0 rfl (lv_at hl 0 rfl) ?_
  refine lv_iload_n C.1 C.2.1 dX8_tension_1 rfl (lv_at hl 1 rfl) ?_
  obtain ⟨r_2, hc, hs⟩ := bd_e hs
  refine M_call C hI (kX8_isWind l D cy q _ _ _ _ _ _ hc) ml_X8_136 im_X8_isWind se_X8_isWind ini_X8 co_X8_isWind hyX8_isWind rfl ⟨by decide, by decide⟩ hl.1 rfl (Nat.le_of_ble_eq_true rfl) dX8_tension_2 (fun H locs hI => ?_)
  refine lv_if_eq (tgt := 24) C.1 C.2.1 dX8_tension_5 (by decide) (fun cn => ?_) (fun cn => ?_)
  · have hs := if_t cn hs
    refine lv_ldc2 C.1 C.2.1 C.2.2.2.1 (C.2.2.2.2.1 _ kl_X8_139) dX8_tension_24 ?_
    obtain ⟨rfl, rfl, rfl, rfl⟩ := so4 hs
    exact M_lret C hI dX8_tension_27
  · have hs := if_f cn hs
    refine lv_iload_n C.1 C.2.1 dX8_tension_8 rfl (lv_at hl 2 rfl) ?_
    obtain ⟨r_9, hc, hs⟩ := bd_e hs
    refine S_call (h := 3) C (kX8_isJoint l _ _ hc) ml_X8_94 st_X8_isJoint ini_X8 co_X8_isJoint hyX8_isJoint rfl ⟨by decide, by decide⟩ hl.1 rfl (Nat.le_of_ble_eq_true rfl) dX8_tension_9 ⟨Nat.le_refl 0, Nat.le_refl 0, Nat.le_refl _, Nat.le_refl _⟩ ?_
    refine lv_if_eq (tgt := 24) C.1 C.2.1 dX8_tension_12 (by decide) (fun cn => ?_) (fun cn => ?_)
    · have hs := if_t cn hs
      refine lv_ldc2 C.1 C.2.1 C.2.2.2.1 (C.2.2.2.2.1 _ kl_X8_139) dX8_tension_24 ?_
      obtain ⟨rfl, rfl, rfl, rfl⟩ := so4 hs
      exact M_lret C hI dX8_tension_27
    · have hs := if_f cn hs
      refine lv_iload_n C.1 C.2.1 dX8_tension_15 rfl (lv_at hl 3 rfl) ?_
      refine lv_iconst (v := 0) C.1 C.2.1 dX8_tension_16 (by decide) ?_
      refine lv_iconst (v := 1) C.1 C.2.1 dX8_tension_17 (by decide) ?_
      obtain ⟨r_18, hc, hs⟩ := bd_e hs
      refine S_call (h := 3) C (kX8_in l _ _ _ _ hc) ml_X8_83 st_X8_in ini_X8 co_X8_in hyX8_in rfl ⟨by decide, by decide⟩ hl.1 rfl (Nat.le_of_ble_eq_true rfl) dX8_tension_18 ⟨Nat.le_refl 0, Nat.le_refl 0, Nat.le_refl _, Nat.le_refl _⟩ ?_
      refine lv_if_ne (tgt := 28) C.1 C.2.1 dX8_tension_21 (by decide) (fun cn => ?_) (fun cn => ?_)
      · have hs := if_f cn hs
        refine lv_aload_n C.1 C.2.1 dX8_tension_28 rfl (lv_at hl 0 rfl) ?_
        obtain ⟨A, hc, hs⟩ := bd_e hs
        refine M_call C hI (kX8_noneGone l D cy q _ _ _ _ _ hc) ml_X8_141 im_X8_noneGone se_X8_noneGone ini_X8 co_X8_noneGone hyX8_noneGone rfl ⟨by decide, by decide⟩ hl.1 rfl (Nat.le_of_ble_eq_true rfl) dX8_tension_29 (fun H locs hI => ?_)
        refine lv_aload_n C.1 C.2.1 dX8_tension_32 rfl (lv_at hl 0 rfl) ?_
        refine lv_iload_n C.1 C.2.1 dX8_tension_33 rfl (lv_at hl 1 rfl) ?_
        refine lv_iload_n C.1 C.2.1 dX8_tension_34 rfl (lv_at hl 3 rfl) ?_
        refine lv_iload_n C.1 C.2.1 dX8_tension_35 rfl (lv_at hl 2 rfl) ?_
        refine lv_bipush (v := 8) C.1 C.2.1 dX8_tension_36 (by decide) ?_
        refine lv_idiv C.1 C.2.1 dX8_tension_38 (by decide) ?_
        obtain ⟨⟨r_39, J, B⟩, hc, hs⟩ := bd_e hs
        refine M_call C hI (kX8_lays l D cy q _ _ _ _ _ _ _ _ _ _ hc) ml_X8_144 im_X8_lays se_X8_lays ini_X8 co_X8_lays hyX8_lays rfl ⟨by decide, by decide⟩ hl.1 rfl (Nat.le_of_ble_eq_true rfl) dX8_tension_39 (fun H locs hI => ?_)
        refine lv_pop C.1 C.2.1 dX8_tension_42 rfl ?_
        refine lv_aload_n C.1 C.2.1 dX8_tension_43 rfl (lv_at hl 0 rfl) ?_
        refine lv_iload_n C.1 C.2.1 dX8_tension_44 rfl (lv_at hl 2 rfl) ?_
        refine lv_iconst (v := 1) C.1 C.2.1 dX8_tension_45 (by decide) ?_
        obtain ⟨J, hc, hs⟩ := bd_e hs
        refine M_call C hI (kX8_pulls l D cy q _ _ _ _ _ _ _ hc) ml_X8_147 im_X8_pulls se_X8_pulls ini_X8 co_X8_pulls hyX8_pulls rfl ⟨by decide, by decide⟩ hl.1 rfl (Nat.le_of_ble_eq_true rfl) dX8_tension_46 (fun H locs hI => ?_)
        refine lv_aload_n C.1 C.2.1 dX8_tension_49 rfl (lv_at hl 0 rfl) ?_
        refine mg_12 C hI dX8_tension_50 ?_
        refine lv_aload_n C.1 C.2.1 dX8_tension_53 rfl (lv_at hl 0 rfl) ?_
        refine mg_13 C hI dX8_tension_54 ?_
        obtain ⟨r_57, hc, hs⟩ := bd_e hs
        refine S_call (h := 3) C (kX8_thousand l _ _ _ hc) ml_X8_151 st_X8_thousand ini_X8 co_X8_thousand hyX8_thousand rfl ⟨by decide, by decide⟩ hl.1 rfl (Nat.le_of_ble_eq_true rfl) dX8_tension_57 ⟨Nat.le_refl 0, Nat.le_refl 0, Nat.le_refl _, Nat.le_refl _⟩ ?_
        obtain ⟨rfl, rfl, rfl, rfl⟩ := so4 hs
        exact M_lret C hI dX8_tension_60
      · have hs := if_t cn hs
        refine lv_ldc2 C.1 C.2.1 C.2.2.2.1 (C.2.2.2.2.1 _ kl_X8_139) dX8_tension_24 ?_
        obtain ⟨rfl, rfl, rfl, rfl⟩ := so4 hs
        exact M_lret C hI dX8_tension_27

def lX8_blows_29 : Nat → Int32 → Int32 → Int32 → Int64 → Int32 → (Nat → Int32) → (Nat → Int64) → (Nat → Nat → Int32) → (Nat → Nat → Int64) → Option ((Nat → Int32) × (Nat → Int64) × (Nat → Nat → Int64))
  | 0, _, _, _, _, _, _, _, _, _ => none
  | n + 1, x1, x2, x4, x5, x7, I, J, A, B =>
    if x7 < 0 then
    (some (I, J, B))
    else
    (sX8_lays x1 x2 x7 I J A B).bind fun (r_39, J, B) =>
    if r_39 = 0 then
    (gv (upd I 16 x7) fun I =>
    gv (x7 + (-1)) fun x7_51 =>
    lX8_blows_29 n x1 x2 x4 x5 x7_51 I J A B)
    else
    gv (x7 + (-1)) fun x7_51 =>
    lX8_blows_29 n x1 x2 x4 x5 x7_51 I J A B
def lX8_blows_91 : Nat → Int32 → Int32 → Int32 → Int64 → Int32 → Int32 → (Nat → Int32) → (Nat → Int64) → (Nat → Nat → Int32) → (Nat → Nat → Int64) → Option (Int32 × Int64 × (Nat → Int64))
  | 0, _, _, _, _, _, _, _, _, _, _ => none
  | n + 1, x1, x2, x4, x5, x7, x8, I, J, A, B =>
    if (((8 : Int32) * x7) + (8 : Int32)) ≤ x8 then
    (some (x4, x5, J))
    else
    ck (inB x8 48) <|
    if (A 4 (ix x8)) = 0 then
    ((sX8_pulls x8 (1 : Int32) I J A B).bind fun J =>
    (sX8_holdsOf x8 I J A B).bind fun r_131 =>
    gv ((J 12) - ((r_131.toInt64) * (J 13))) fun x9_141 =>
    if 0 < (lg_cmp x9_141 (0 : Int64)) then
    ((sX8_thousand x9_141 (J 13)).bind fun r_159 =>
    if x4 = (-1 : Int32) then
    (gv (x8 + 1) fun x8_189 =>
    lX8_blows_91 n x1 x2 x8 r_159 x7 x8_189 I J A B)
    else
    if 0 < (lg_cmp r_159 x5) then
    (gv (x8 + 1) fun x8_189 =>
    lX8_blows_91 n x1 x2 x8 r_159 x7 x8_189 I J A B)
    else
    gv (x8 + 1) fun x8_189 =>
    lX8_blows_91 n x1 x2 x4 x5 x7 x8_189 I J A B)
    else
    gv (x8 + 1) fun x8_189 =>
    lX8_blows_91 n x1 x2 x4 x5 x7 x8_189 I J A B)
    else
    gv (x8 + 1) fun x8_189 =>
    lX8_blows_91 n x1 x2 x4 x5 x7 x8_189 I J A B
def lX8_blows_60 : Nat → Int32 → Int32 → Int32 → Int64 → Int32 → (Nat → Int32) → (Nat → Int64) → (Nat → Nat → Int32) → (Nat → Nat → Int64) → Option (Int32 × (Nat → Int64) × (Nat → Nat → Int64))
  | 0, _, _, _, _, _, _, _, _, _ => none
  | n + 1, x1, x2, x4, x5, x7, I, J, A, B =>
    if (6 : Int32) ≤ x7 then
    (some (x4, J, B))
    else
    if (I 16) = (-1 : Int32) then
    ((sX8_lays x1 x2 x7 I J A B).bind fun (r_80, J, B) =>
    gv ((8 : Int32) * x7) fun x8_89 =>
    (lX8_blows_91 FU x1 x2 x4 x5 x7 x8_89 I J A B).bind fun (x4_91, x5_91, J) =>
    gv (x7 + 1) fun x7_195 =>
    lX8_blows_60 n x1 x2 x4_91 x5_91 x7_195 I J A B)
    else
    some (x4, J, B)
def lX8_blows_16 : Nat → Int32 → Int32 → Int32 → (Nat → Int32) → (Nat → Int64) → (Nat → Nat → Int32) → (Nat → Nat → Int64) → Option ((Nat → Int32) × (Nat → Int64) × (Nat → Nat → Int32) × (Nat → Nat → Int64))
  | 0, _, _, _, _, _, _, _ => none
  | n + 1, x1, x2, x3, I, J, A, B =>
    if x3 = 0 then
    (some (I, J, A, B))
    else
    (lX8_blows_29 FU x1 x2 (-1 : Int32) (0 : Int64) (5 : Int32) I J A B).bind fun (I, J, B) =>
    (lX8_blows_60 FU x1 x2 (-1 : Int32) (0 : Int64) (0 : Int32) I J A B).bind fun (x4_60, J, B) =>
    gv (if x4_60 = (-1 : Int32) then (0 : Int32) else (1 : Int32)) fun v_212 =>
    if v_212 = 0 then
    (lX8_blows_16 n x1 x2 v_212 I J A B)
    else
    ck (inB x4_60 48) <|
    gv (va_up A 4 (upd (A 4) (ix x4_60) (vp_nar .boolean (1 : Int32)))) fun A =>
    ck (inB (I 15) 48) <|
    gv (va_up A 14 (upd (A 14) (ix (I 15)) x4_60)) fun A =>
    gv (upd I 15 ((I 15) + (1 : Int32))) fun I =>
    lX8_blows_16 n x1 x2 v_212 I J A B
def sX8_blows (x1 : Int32) (x2 : Int32) (I : Nat → Int32) (J : Nat → Int64) (A : Nat → Nat → Int32) (B : Nat → Nat → Int64) : Option ((Nat → Int32) × (Nat → Int64) × (Nat → Nat → Int32) × (Nat → Nat → Int64)) :=
(sX8_noneGone  I J A B).bind fun A =>
gv (upd I 15 (0 : Int32)) fun I =>
gv (upd I 16 (-1 : Int32)) fun I =>
(lX8_blows_16 FU x1 x2 (1 : Int32) I J A B).bind fun (I, J, A, B) =>
some (I, J, A, B)
set_option maxRecDepth 100000 in
set_option maxHeartbeats 8000000 in
theorem kX8_blows (l : Launch) (D : va_G) (cy : Nat → ClassId) (q : Nat → Nat) (x1 : Int32) (x2 : Int32) (I : Nat → Int32) (J : Nat → Int64) (A : Nat → Nat → Int32) (B : Nat → Nat → Int64) (I2 : Nat → Int32) (J2 : Nat → Int64) (A2 : Nat → Nat → Int32) (B2 : Nat → Nat → Int64) (hs : sX8_blows x1 x2 I J A B = some (I2, J2, A2, B2)) : McI l yX8_blows cX8_blows 13 none 3 [.ref (q 46), .int x1, .int x2] D cy q I J A B none I2 J2 A2 B2 := by
  refine M_start rfl rfl (Nat.le_of_ble_eq_true rfl) ?_
  intro p e s m args below meth c H locs C hI ls hl
  have hl : lv_has ls 13 [(0, .ref (q 46)), (1, .int x1), (2, .int x2)] := hl
  rw [sX8_blows] at hs
  refine lv_aload_n C.1 C.2.1 dX8_blows_0 rfl (lv_at hl 0 rfl) ?_
  obtain ⟨A, hc, hs⟩ := bd_e hs
  refine M_call C hI (kX8_noneGone l D cy q _ _ _ _ _ hc) ml_X8_141 im_X8_noneGone se_X8_noneGone ini_X8 co_X8_noneGone hyX8_noneGone rfl ⟨by decide, by decide⟩ hl.1 rfl (Nat.le_of_ble_eq_true rfl) dX8_blows_1 (fun H locs hI => ?_)
  refine lv_aload_n C.1 C.2.1 dX8_blows_4 rfl (lv_at hl 0 rfl) ?_
  refine lv_iconst (v := 0) C.1 C.2.1 dX8_blows_5 (by decide) ?_
  refine mp_15 C hI dX8_blows_6 (fun H locs hI => ?_)
  have hs := gv_be hs
  refine lv_aload_n C.1 C.2.1 dX8_blows_9 rfl (lv_at hl 0 rfl) ?_
  refine lv_iconst (v := -1) C.1 C.2.1 dX8_blows_10 (by decide) ?_
  refine mp_16 C hI dX8_blows_11 (fun H locs hI => ?_)
  have hs := gv_be hs
  refine lv_iconst (v := 1) C.1 C.2.1 dX8_blows_14 (by decide) ?_
  refine lv_istore_n (lv' := [(3, .int (1 : Int32)), (0, .ref (q 46)), (1, .int x1), (2, .int x2)]) C.1 C.2.1 dX8_blows_15 rfl hl (by decide) rfl (fun ls hl => ?_)
  have KL_16 : ∀ (n : Nat) (x1 : Int32) (x2 : Int32) (x3 : Int32) (I : Nat → Int32) (J : Nat → Int64) (A : Nat → Nat → Int32) (B : Nat → Nat → Int64) (o : (Nat → Int32) × (Nat → Int64) × (Nat → Nat → Int32) × (Nat → Nat → Int64)) (Q : State → Prop) (H : Heap) (locs : List Loc) (ls : Array Slot), lX8_blows_16 n x1 x2 x3 I J A B = some o → MI D cy s s.heap H locs q I J A B → lv_has ls 13 [(0, .ref (q 46)), (1, .int x1), (2, .int x2), (3, .int x3)] → (∀ (I_0 : Nat → Int32) (J_0 : Nat → Int64) (A_0 : Nat → Nat → Int32) (B_0 : Nat → Nat → Int64) (H : Heap) (locs : List Loc) (ls : Array Slot), o = (I_0, J_0, A_0, B_0) → MI D cy s s.heap H locs q I_0 J_0 A_0 B_0 → lv_has ls 13 [] → W p l e (rmL 3) s m args below meth c H locs 0 0 Q (F0 m 252 ls [])) → W p l e (rmL 3) s m args below meth c H locs 0 0 Q (F0 m 16 ls []) := by
    intro n; induction n with
    | zero => intro x1 x2 x3 I J A B o Q H locs ls hs; rw [lX8_blows_16] at hs; cases hs
    | succ n ih =>
      intro x1 x2 x3 I J A B o Q H locs ls hs hI hl kk0
      rw [lX8_blows_16] at hs
      refine lv_iload_n C.1 C.2.1 dX8_blows_16 rfl (lv_at hl 3 rfl) ?_
      refine lv_if_eq (tgt := 252) C.1 C.2.1 dX8_blows_17 (by decide) (fun cn => ?_) (fun cn => ?_)
      · have hs := if_t cn hs
        have eo := (Option.some.inj hs).symm
        exact kk0 _ _ _ _ _ _ _ eo hI (lv_sub hl [] rfl)
      · have hs := if_f cn hs
        refine lv_iconst (v := -1) C.1 C.2.1 dX8_blows_20 (by decide) ?_
        refine lv_istore (lv' := [(4, .int (-1 : Int32)), (0, .ref (q 46)), (1, .int x1), (2, .int x2), (3, .int x3)]) C.1 C.2.1 dX8_blows_21 hl (by decide) rfl (fun ls hl => ?_)
        refine lv_lconst (v := 0) C.1 C.2.1 dX8_blows_23 (by decide) ?_
        refine lv_lstore (lv' := [(5, .long (0 : Int64)), (4, .int (-1 : Int32)), (0, .ref (q 46)), (1, .int x1), (2, .int x2), (3, .int x3)]) C.1 C.2.1 dX8_blows_24 hl (by decide) rfl (fun ls hl => ?_)
        refine lv_iconst (v := 5) C.1 C.2.1 dX8_blows_26 (by decide) ?_
        refine lv_istore (lv' := [(7, .int (5 : Int32)), (5, .long (0 : Int64)), (4, .int (-1 : Int32)), (0, .ref (q 46)), (1, .int x1), (2, .int x2), (3, .int x3)]) C.1 C.2.1 dX8_blows_27 hl (by decide) rfl (fun ls hl => ?_)
        have KL_29 : ∀ (n : Nat) (x1 : Int32) (x2 : Int32) (x4 : Int32) (x5 : Int64) (x7 : Int32) (I : Nat → Int32) (J : Nat → Int64) (A : Nat → Nat → Int32) (B : Nat → Nat → Int64) (o : (Nat → Int32) × (Nat → Int64) × (Nat → Nat → Int64)) (Q : State → Prop) (H : Heap) (locs : List Loc) (ls : Array Slot), lX8_blows_29 n x1 x2 x4 x5 x7 I J A B = some o → MI D cy s s.heap H locs q I J A B → lv_has ls 13 [(0, .ref (q 46)), (1, .int x1), (2, .int x2), (4, .int x4), (5, .long x5), (7, .int x7)] → (∀ (I_0 : Nat → Int32) (J_0 : Nat → Int64) (B_0 : Nat → Nat → Int64) (H : Heap) (locs : List Loc) (ls : Array Slot), o = (I_0, J_0, B_0) → MI D cy s s.heap H locs q I_0 J_0 A B_0 → lv_has ls 13 [(0, .ref (q 46)), (1, .int x1), (2, .int x2), (4, .int x4), (5, .long x5)] → W p l e (rmL 3) s m args below meth c H locs 0 0 Q (F0 m 57 ls [])) → W p l e (rmL 3) s m args below meth c H locs 0 0 Q (F0 m 29 ls []) := by
          intro n; induction n with
          | zero => intro x1 x2 x4 x5 x7 I J A B o Q H locs ls hs; rw [lX8_blows_29] at hs; cases hs
          | succ n ih =>
            intro x1 x2 x4 x5 x7 I J A B o Q H locs ls hs hI hl kk0
            rw [lX8_blows_29] at hs
            refine lv_iload C.1 C.2.1 dX8_blows_29 (lv_at hl 5 rfl) ?_
            refine lv_if_lt (tgt := 57) C.1 C.2.1 dX8_blows_31 (by decide) (fun cn => ?_) (fun cn => ?_)
            · have hs := if_t cn hs
              have eo := (Option.some.inj hs).symm
              exact kk0 _ _ _ _ _ _ eo hI (lv_sub hl [0, 1, 2, 3, 4] rfl)
            · have hs := if_f cn hs
              refine lv_aload_n C.1 C.2.1 dX8_blows_34 rfl (lv_at hl 0 rfl) ?_
              refine lv_iload_n C.1 C.2.1 dX8_blows_35 rfl (lv_at hl 1 rfl) ?_
              refine lv_iload_n C.1 C.2.1 dX8_blows_36 rfl (lv_at hl 2 rfl) ?_
              refine lv_iload C.1 C.2.1 dX8_blows_37 (lv_at hl 5 rfl) ?_
              obtain ⟨⟨r_39, J, B⟩, hc, hs⟩ := bd_e hs
              refine M_call C hI (kX8_lays l D cy q _ _ _ _ _ _ _ _ _ _ hc) ml_X8_144 im_X8_lays se_X8_lays ini_X8 co_X8_lays hyX8_lays rfl ⟨by decide, by decide⟩ hl.1 rfl (Nat.le_of_ble_eq_true rfl) dX8_blows_39 (fun H locs hI => ?_)
              refine lv_if_ne (tgt := 51) C.1 C.2.1 dX8_blows_42 (by decide) (fun cn => ?_) (fun cn => ?_)
              · have hs := if_f cn hs
                obtain ⟨x7_51, ex7_51⟩ : ∃ y : Int32, y = (x7 + (-1)) := ⟨_, rfl⟩
                have hs := gv_at ex7_51 hs
                refine lv_iinc (v := x7_51) (lv' := [(7, .int x7_51), (0, .ref (q 46)), (1, .int x1), (2, .int x2), (4, .int x4), (5, .long x5)]) C.1 C.2.1 dX8_blows_51 hl (k := 5) rfl (by rw [ex7_51]; rfl) (by decide) rfl (fun ls hl => ?_)
                refine lv_goto (tgt := 29) C.1 C.2.1 dX8_blows_54 (by decide) ?_
                exact ih _ _ _ _ _ _ _ _ _ _ _ _ _ _ hs hI (lv_sub hl [1, 2, 3, 4, 5, 0] rfl) kk0
              · have hs := if_t cn hs
                refine lv_aload_n C.1 C.2.1 dX8_blows_45 rfl (lv_at hl 0 rfl) ?_
                refine lv_iload C.1 C.2.1 dX8_blows_46 (lv_at hl 5 rfl) ?_
                refine mp_16 C hI dX8_blows_48 (fun H locs hI => ?_)
                have hs := gv_be hs
                obtain ⟨x7_51, ex7_51⟩ : ∃ y : Int32, y = (x7 + (-1)) := ⟨_, rfl⟩
                have hs := gv_at ex7_51 hs
                refine lv_iinc (v := x7_51) (lv' := [(7, .int x7_51), (0, .ref (q 46)), (1, .int x1), (2, .int x2), (4, .int x4), (5, .long x5)]) C.1 C.2.1 dX8_blows_51 hl (k := 5) rfl (by rw [ex7_51]; rfl) (by decide) rfl (fun ls hl => ?_)
                refine lv_goto (tgt := 29) C.1 C.2.1 dX8_blows_54 (by decide) ?_
                exact ih _ _ _ _ _ _ _ _ _ _ _ _ _ _ hs hI (lv_sub hl [1, 2, 3, 4, 5, 0] rfl) kk0
        obtain ⟨⟨I_L, J_L, B_L⟩, hL, hs⟩ := bd_e hs
        refine KL_29 FU _ _ _ _ _ _ _ _ _ _ _ _ _ _ hL hI (lv_sub hl [3, 4, 5, 2, 1, 0] rfl) (fun z0 z1 z2 H locs ls eo hI hl => ?_)
        obtain ⟨rfl, rfl, rfl⟩ := pr3 eo
        refine lv_iconst (v := 0) C.1 C.2.1 dX8_blows_57 (by decide) ?_
        refine lv_istore (lv' := [(7, .int (0 : Int32)), (0, .ref (q 46)), (1, .int x1), (2, .int x2), (4, .int (-1 : Int32)), (5, .long (0 : Int64))]) C.1 C.2.1 dX8_blows_58 hl (by decide) rfl (fun ls hl => ?_)
        have KL_60 : ∀ (n : Nat) (x1 : Int32) (x2 : Int32) (x4 : Int32) (x5 : Int64) (x7 : Int32) (I : Nat → Int32) (J : Nat → Int64) (A : Nat → Nat → Int32) (B : Nat → Nat → Int64) (o : Int32 × (Nat → Int64) × (Nat → Nat → Int64)) (Q : State → Prop) (H : Heap) (locs : List Loc) (ls : Array Slot), lX8_blows_60 n x1 x2 x4 x5 x7 I J A B = some o → MI D cy s s.heap H locs q I J A B → lv_has ls 13 [(0, .ref (q 46)), (1, .int x1), (2, .int x2), (4, .int x4), (5, .long x5), (7, .int x7)] → (∀ (o4_0 : Int32) (J_0 : Nat → Int64) (B_0 : Nat → Nat → Int64) (H : Heap) (locs : List Loc) (ls : Array Slot), o = (o4_0, J_0, B_0) → MI D cy s s.heap H locs q I J_0 A B_0 → lv_has ls 13 [(0, .ref (q 46)), (1, .int x1), (2, .int x2), (4, .int o4_0)] → W p l e (rmL 3) s m args below meth c H locs 0 0 Q (F0 m 201 ls [])) → W p l e (rmL 3) s m args below meth c H locs 0 0 Q (F0 m 60 ls []) := by
          intro n; induction n with
          | zero => intro x1 x2 x4 x5 x7 I J A B o Q H locs ls hs; rw [lX8_blows_60] at hs; cases hs
          | succ n ih =>
            intro x1 x2 x4 x5 x7 I J A B o Q H locs ls hs hI hl kk0
            rw [lX8_blows_60] at hs
            refine lv_iload C.1 C.2.1 dX8_blows_60 (lv_at hl 5 rfl) ?_
            refine lv_bipush (v := 6) C.1 C.2.1 dX8_blows_62 (by decide) ?_
            refine lv_icmp_ge (tgt := 201) C.1 C.2.1 dX8_blows_64 (by decide) (fun cn => ?_) (fun cn => ?_)
            · have hs := if_t cn hs
              have eo := (Option.some.inj hs).symm
              exact kk0 _ _ _ _ _ _ eo hI (lv_sub hl [0, 1, 2, 3] rfl)
            · have hs := if_f cn hs
              refine lv_aload_n C.1 C.2.1 dX8_blows_67 rfl (lv_at hl 0 rfl) ?_
              refine mg_16 C hI dX8_blows_68 ?_
              refine lv_iconst (v := -1) C.1 C.2.1 dX8_blows_71 (by decide) ?_
              refine lv_icmp_ne (tgt := 201) C.1 C.2.1 dX8_blows_72 (by decide) (fun cn => ?_) (fun cn => ?_)
              · have hs := if_f cn hs
                have eo := (Option.some.inj hs).symm
                exact kk0 _ _ _ _ _ _ eo hI (lv_sub hl [0, 1, 2, 3] rfl)
              · have hs := if_t cn hs
                refine lv_aload_n C.1 C.2.1 dX8_blows_75 rfl (lv_at hl 0 rfl) ?_
                refine lv_iload_n C.1 C.2.1 dX8_blows_76 rfl (lv_at hl 1 rfl) ?_
                refine lv_iload_n C.1 C.2.1 dX8_blows_77 rfl (lv_at hl 2 rfl) ?_
                refine lv_iload C.1 C.2.1 dX8_blows_78 (lv_at hl 5 rfl) ?_
                obtain ⟨⟨r_80, J, B⟩, hc, hs⟩ := bd_e hs
                refine M_call C hI (kX8_lays l D cy q _ _ _ _ _ _ _ _ _ _ hc) ml_X8_144 im_X8_lays se_X8_lays ini_X8 co_X8_lays hyX8_lays rfl ⟨by decide, by decide⟩ hl.1 rfl (Nat.le_of_ble_eq_true rfl) dX8_blows_80 (fun H locs hI => ?_)
                refine lv_pop C.1 C.2.1 dX8_blows_83 rfl ?_
                refine lv_bipush (v := 8) C.1 C.2.1 dX8_blows_84 (by decide) ?_
                refine lv_iload C.1 C.2.1 dX8_blows_86 (lv_at hl 5 rfl) ?_
                refine lv_imul C.1 C.2.1 dX8_blows_88 ?_
                refine lv_topi (fun x8_89 ex8_89 => ?_)
                have hs := gv_at ex8_89 hs
                refine lv_istore (lv' := [(8, .int x8_89), (0, .ref (q 46)), (1, .int x1), (2, .int x2), (4, .int x4), (5, .long x5), (7, .int x7)]) C.1 C.2.1 dX8_blows_89 hl (by decide) rfl (fun ls hl => ?_)
                have KL_91 : ∀ (n : Nat) (x1 : Int32) (x2 : Int32) (x4 : Int32) (x5 : Int64) (x7 : Int32) (x8 : Int32) (I : Nat → Int32) (J : Nat → Int64) (A : Nat → Nat → Int32) (B : Nat → Nat → Int64) (o : Int32 × Int64 × (Nat → Int64)) (Q : State → Prop) (H : Heap) (locs : List Loc) (ls : Array Slot), lX8_blows_91 n x1 x2 x4 x5 x7 x8 I J A B = some o → MI D cy s s.heap H locs q I J A B → lv_has ls 13 [(0, .ref (q 46)), (1, .int x1), (2, .int x2), (4, .int x4), (5, .long x5), (7, .int x7), (8, .int x8)] → (∀ (o4_0 : Int32) (o5_0 : Int64) (J_0 : Nat → Int64) (H : Heap) (locs : List Loc) (ls : Array Slot), o = (o4_0, o5_0, J_0) → MI D cy s s.heap H locs q I J_0 A B → lv_has ls 13 [(0, .ref (q 46)), (1, .int x1), (2, .int x2), (4, .int o4_0), (5, .long o5_0), (7, .int x7)] → W p l e (rmL 3) s m args below meth c H locs 0 0 Q (F0 m 195 ls [])) → W p l e (rmL 3) s m args below meth c H locs 0 0 Q (F0 m 91 ls []) := by
                  intro n; induction n with
                  | zero => intro x1 x2 x4 x5 x7 x8 I J A B o Q H locs ls hs; rw [lX8_blows_91] at hs; cases hs
                  | succ n ih =>
                    intro x1 x2 x4 x5 x7 x8 I J A B o Q H locs ls hs hI hl kk0
                    rw [lX8_blows_91] at hs
                    refine lv_iload C.1 C.2.1 dX8_blows_91 (lv_at hl 6 rfl) ?_
                    refine lv_bipush (v := 8) C.1 C.2.1 dX8_blows_93 (by decide) ?_
                    refine lv_iload C.1 C.2.1 dX8_blows_95 (lv_at hl 5 rfl) ?_
                    refine lv_imul C.1 C.2.1 dX8_blows_97 ?_
                    refine lv_bipush (v := 8) C.1 C.2.1 dX8_blows_98 (by decide) ?_
                    refine lv_iadd C.1 C.2.1 dX8_blows_100 ?_
                    refine lv_icmp_ge (tgt := 195) C.1 C.2.1 dX8_blows_101 (by decide) (fun cn => ?_) (fun cn => ?_)
                    · have hs := if_t cn hs
                      have eo := (Option.some.inj hs).symm
                      exact kk0 _ _ _ _ _ _ eo hI (lv_sub hl [0, 1, 2, 3, 4, 5] rfl)
                    · have hs := if_f cn hs
                      refine lv_aload_n C.1 C.2.1 dX8_blows_104 rfl (lv_at hl 0 rfl) ?_
                      refine mg_4 C hI dX8_blows_105 ?_
                      refine lv_iload C.1 C.2.1 dX8_blows_108 (lv_at hl 6 rfl) ?_
                      obtain ⟨hk, hs⟩ := ck_e hs
                      refine ma_4 C hI hk dX8_blows_110 ?_
                      refine lv_if_eq (tgt := 117) C.1 C.2.1 dX8_blows_111 (by decide) (fun cn => ?_) (fun cn => ?_)
                      · have hs := if_t cn hs
                        refine lv_aload_n C.1 C.2.1 dX8_blows_117 rfl (lv_at hl 0 rfl) ?_
                        refine lv_iload C.1 C.2.1 dX8_blows_118 (lv_at hl 6 rfl) ?_
                        refine lv_iconst (v := 1) C.1 C.2.1 dX8_blows_120 (by decide) ?_
                        obtain ⟨J, hc, hs⟩ := bd_e hs
                        refine M_call C hI (kX8_pulls l D cy q _ _ _ _ _ _ _ hc) ml_X8_147 im_X8_pulls se_X8_pulls ini_X8 co_X8_pulls hyX8_pulls rfl ⟨by decide, by decide⟩ hl.1 rfl (Nat.le_of_ble_eq_true rfl) dX8_blows_121 (fun H locs hI => ?_)
                        refine lv_aload_n C.1 C.2.1 dX8_blows_124 rfl (lv_at hl 0 rfl) ?_
                        refine mg_12 C hI dX8_blows_125 ?_
                        refine lv_aload_n C.1 C.2.1 dX8_blows_128 rfl (lv_at hl 0 rfl) ?_
                        refine lv_iload C.1 C.2.1 dX8_blows_129 (lv_at hl 6 rfl) ?_
                        obtain ⟨r_131, hc, hs⟩ := bd_e hs
                        refine M_call C hI (kX8_holdsOf l D cy q _ _ _ _ _ _ hc) ml_X8_103 im_X8_holdsOf se_X8_holdsOf ini_X8 co_X8_holdsOf hyX8_holdsOf rfl ⟨by decide, by decide⟩ hl.1 rfl (Nat.le_of_ble_eq_true rfl) dX8_blows_131 (fun H locs hI => ?_)
                        refine lv_i2l C.1 C.2.1 dX8_blows_134 rfl ?_
                        refine lv_aload_n C.1 C.2.1 dX8_blows_135 rfl (lv_at hl 0 rfl) ?_
                        refine mg_13 C hI dX8_blows_136 ?_
                        refine lv_lmul C.1 C.2.1 dX8_blows_139 ?_
                        refine lv_lsub C.1 C.2.1 dX8_blows_140 ?_
                        refine lv_topl (fun x9_141 ex9_141 => ?_)
                        have hs := gv_at ex9_141 hs
                        refine lv_lstore (lv' := [(9, .long x9_141), (0, .ref (q 46)), (1, .int x1), (2, .int x2), (4, .int x4), (5, .long x5), (7, .int x7), (8, .int x8)]) C.1 C.2.1 dX8_blows_141 hl (by decide) rfl (fun ls hl => ?_)
                        refine lv_lload C.1 C.2.1 dX8_blows_143 (lv_at hl 0 rfl) ?_
                        refine lv_lconst (v := 0) C.1 C.2.1 dX8_blows_145 (by decide) ?_
                        refine W.lcmp C.1 C.2.1 dX8_blows_146 ?_
                        refine lv_if_gt (tgt := 153) C.1 C.2.1 dX8_blows_147 (by decide) (fun cn => ?_) (fun cn => ?_)
                        · have hs := if_t cn hs
                          refine lv_lload C.1 C.2.1 dX8_blows_153 (lv_at hl 0 rfl) ?_
                          refine lv_aload_n C.1 C.2.1 dX8_blows_155 rfl (lv_at hl 1 rfl) ?_
                          refine mg_13 C hI dX8_blows_156 ?_
                          obtain ⟨r_159, hc, hs⟩ := bd_e hs
                          refine S_call (h := 3) C (kX8_thousand l _ _ _ hc) ml_X8_151 st_X8_thousand ini_X8 co_X8_thousand hyX8_thousand rfl ⟨by decide, by decide⟩ hl.1 rfl (Nat.le_of_ble_eq_true rfl) dX8_blows_159 ⟨Nat.le_refl 0, Nat.le_refl 0, Nat.le_refl _, Nat.le_refl _⟩ ?_
                          refine lv_lstore (lv' := [(11, .long r_159), (9, .long x9_141), (0, .ref (q 46)), (1, .int x1), (2, .int x2), (4, .int x4), (5, .long x5), (7, .int x7), (8, .int x8)]) C.1 C.2.1 dX8_blows_162 hl (by decide) rfl (fun ls hl => ?_)
                          refine lv_iload C.1 C.2.1 dX8_blows_164 (lv_at hl 5 rfl) ?_
                          refine lv_iconst (v := -1) C.1 C.2.1 dX8_blows_166 (by decide) ?_
                          refine lv_icmp_eq (tgt := 181) C.1 C.2.1 dX8_blows_167 (by decide) (fun cn => ?_) (fun cn => ?_)
                          · have hs := if_t cn hs
                            refine lv_iload C.1 C.2.1 dX8_blows_181 (lv_at hl 8 rfl) ?_
                            refine lv_istore (lv' := [(4, .int x8), (11, .long r_159), (9, .long x9_141), (0, .ref (q 46)), (1, .int x1), (2, .int x2), (5, .long x5), (7, .int x7), (8, .int x8)]) C.1 C.2.1 dX8_blows_183 hl (by decide) rfl (fun ls hl => ?_)
                            refine lv_lload C.1 C.2.1 dX8_blows_185 (lv_at hl 1 rfl) ?_
                            refine lv_lstore (lv' := [(5, .long r_159), (4, .int x8), (11, .long r_159), (9, .long x9_141), (0, .ref (q 46)), (1, .int x1), (2, .int x2), (7, .int x7), (8, .int x8)]) C.1 C.2.1 dX8_blows_187 hl (by decide) rfl (fun ls hl => ?_)
                            obtain ⟨x8_189, ex8_189⟩ : ∃ y : Int32, y = (x8 + 1) := ⟨_, rfl⟩
                            have hs := gv_at ex8_189 hs
                            refine lv_iinc (v := x8_189) (lv' := [(8, .int x8_189), (5, .long r_159), (4, .int x8), (11, .long r_159), (9, .long x9_141), (0, .ref (q 46)), (1, .int x1), (2, .int x2), (7, .int x7)]) C.1 C.2.1 dX8_blows_189 hl (k := 8) rfl (by rw [ex8_189]; rfl) (by decide) rfl (fun ls hl => ?_)
                            refine lv_goto (tgt := 91) C.1 C.2.1 dX8_blows_192 (by decide) ?_
                            exact ih _ _ _ _ _ _ _ _ _ _ _ _ _ _ _ hs hI (lv_sub hl [5, 6, 7, 2, 1, 8, 0] rfl) kk0
                          · have hs := if_f cn hs
                            refine lv_lload C.1 C.2.1 dX8_blows_170 (lv_at hl 0 rfl) ?_
                            refine lv_lload C.1 C.2.1 dX8_blows_172 (lv_at hl 6 rfl) ?_
                            refine W.lcmp C.1 C.2.1 dX8_blows_174 ?_
                            refine lv_if_gt (tgt := 181) C.1 C.2.1 dX8_blows_175 (by decide) (fun cn => ?_) (fun cn => ?_)
                            · have hs := if_t cn hs
                              refine lv_iload C.1 C.2.1 dX8_blows_181 (lv_at hl 8 rfl) ?_
                              refine lv_istore (lv' := [(4, .int x8), (11, .long r_159), (9, .long x9_141), (0, .ref (q 46)), (1, .int x1), (2, .int x2), (5, .long x5), (7, .int x7), (8, .int x8)]) C.1 C.2.1 dX8_blows_183 hl (by decide) rfl (fun ls hl => ?_)
                              refine lv_lload C.1 C.2.1 dX8_blows_185 (lv_at hl 1 rfl) ?_
                              refine lv_lstore (lv' := [(5, .long r_159), (4, .int x8), (11, .long r_159), (9, .long x9_141), (0, .ref (q 46)), (1, .int x1), (2, .int x2), (7, .int x7), (8, .int x8)]) C.1 C.2.1 dX8_blows_187 hl (by decide) rfl (fun ls hl => ?_)
                              obtain ⟨x8_189, ex8_189⟩ : ∃ y : Int32, y = (x8 + 1) := ⟨_, rfl⟩
                              have hs := gv_at ex8_189 hs
                              refine lv_iinc (v := x8_189) (lv' := [(8, .int x8_189), (5, .long r_159), (4, .int x8), (11, .long r_159), (9, .long x9_141), (0, .ref (q 46)), (1, .int x1), (2, .int x2), (7, .int x7)]) C.1 C.2.1 dX8_blows_189 hl (k := 8) rfl (by rw [ex8_189]; rfl) (by decide) rfl (fun ls hl => ?_)
                              refine lv_goto (tgt := 91) C.1 C.2.1 dX8_blows_192 (by decide) ?_
                              exact ih _ _ _ _ _ _ _ _ _ _ _ _ _ _ _ hs hI (lv_sub hl [5, 6, 7, 2, 1, 8, 0] rfl) kk0
                            · have hs := if_f cn hs
                              refine lv_goto (tgt := 189) C.1 C.2.1 dX8_blows_178 (by decide) ?_
                              obtain ⟨x8_189, ex8_189⟩ : ∃ y : Int32, y = (x8 + 1) := ⟨_, rfl⟩
                              have hs := gv_at ex8_189 hs
                              refine lv_iinc (v := x8_189) (lv' := [(8, .int x8_189), (11, .long r_159), (9, .long x9_141), (0, .ref (q 46)), (1, .int x1), (2, .int x2), (4, .int x4), (5, .long x5), (7, .int x7)]) C.1 C.2.1 dX8_blows_189 hl (k := 8) rfl (by rw [ex8_189]; rfl) (by decide) rfl (fun ls hl => ?_)
                              refine lv_goto (tgt := 91) C.1 C.2.1 dX8_blows_192 (by decide) ?_
                              exact ih _ _ _ _ _ _ _ _ _ _ _ _ _ _ _ hs hI (lv_sub hl [3, 4, 5, 6, 7, 8, 0] rfl) kk0
                        · have hs := if_f cn hs
                          refine lv_goto (tgt := 189) C.1 C.2.1 dX8_blows_150 (by decide) ?_
                          obtain ⟨x8_189, ex8_189⟩ : ∃ y : Int32, y = (x8 + 1) := ⟨_, rfl⟩
                          have hs := gv_at ex8_189 hs
                          refine lv_iinc (v := x8_189) (lv' := [(8, .int x8_189), (9, .long x9_141), (0, .ref (q 46)), (1, .int x1), (2, .int x2), (4, .int x4), (5, .long x5), (7, .int x7)]) C.1 C.2.1 dX8_blows_189 hl (k := 7) rfl (by rw [ex8_189]; rfl) (by decide) rfl (fun ls hl => ?_)
                          refine lv_goto (tgt := 91) C.1 C.2.1 dX8_blows_192 (by decide) ?_
                          exact ih _ _ _ _ _ _ _ _ _ _ _ _ _ _ _ hs hI (lv_sub hl [2, 3, 4, 5, 6, 7, 0] rfl) kk0
                      · have hs := if_f cn hs
                        refine lv_goto (tgt := 189) C.1 C.2.1 dX8_blows_114 (by decide) ?_
                        obtain ⟨x8_189, ex8_189⟩ : ∃ y : Int32, y = (x8 + 1) := ⟨_, rfl⟩
                        have hs := gv_at ex8_189 hs
                        refine lv_iinc (v := x8_189) (lv' := [(8, .int x8_189), (0, .ref (q 46)), (1, .int x1), (2, .int x2), (4, .int x4), (5, .long x5), (7, .int x7)]) C.1 C.2.1 dX8_blows_189 hl (k := 6) rfl (by rw [ex8_189]; rfl) (by decide) rfl (fun ls hl => ?_)
                        refine lv_goto (tgt := 91) C.1 C.2.1 dX8_blows_192 (by decide) ?_
                        exact ih _ _ _ _ _ _ _ _ _ _ _ _ _ _ _ hs hI (lv_sub hl [1, 2, 3, 4, 5, 6, 0] rfl) kk0
                obtain ⟨⟨x4_91, x5_91, J_L⟩, hL, hs⟩ := bd_e hs
                refine KL_91 FU _ _ _ _ _ _ _ _ _ _ _ _ _ _ _ hL hI (lv_sub hl [1, 2, 3, 4, 5, 6, 0] rfl) (fun z0 z1 z2 H locs ls eo hI hl => ?_)
                obtain ⟨rfl, rfl, rfl⟩ := pr3 eo
                obtain ⟨x7_195, ex7_195⟩ : ∃ y : Int32, y = (x7 + 1) := ⟨_, rfl⟩
                have hs := gv_at ex7_195 hs
                refine lv_iinc (v := x7_195) (lv' := [(7, .int x7_195), (0, .ref (q 46)), (1, .int x1), (2, .int x2), (4, .int x4_91), (5, .long x5_91)]) C.1 C.2.1 dX8_blows_195 hl (k := 5) rfl (by rw [ex7_195]; rfl) (by decide) rfl (fun ls hl => ?_)
                refine lv_goto (tgt := 60) C.1 C.2.1 dX8_blows_198 (by decide) ?_
                exact ih _ _ _ _ _ _ _ _ _ _ _ _ _ _ hs hI (lv_sub hl [1, 2, 3, 4, 5, 0] rfl) kk0
        obtain ⟨⟨x4_60, J_L, B_L⟩, hL, hs⟩ := bd_e hs
        refine KL_60 FU _ _ _ _ _ _ _ _ _ _ _ _ _ _ hL hI (lv_sub hl [1, 2, 3, 4, 5, 0] rfl) (fun z0 z1 z2 H locs ls eo hI hl => ?_)
        obtain ⟨rfl, rfl, rfl⟩ := pr3 eo
        refine lv_iload C.1 C.2.1 dX8_blows_201 (lv_at hl 3 rfl) ?_
        refine lv_iconst (v := -1) C.1 C.2.1 dX8_blows_203 (by decide) ?_
        obtain ⟨v_212, ev_212, hs⟩ := gv_ex hs
        have KP_212 : W p l e (rmL 3) s m args below meth c H locs 0 0 Q (F0 m 212 ls [.int v_212]) := by
          refine lv_istore_n (lv' := [(3, .int v_212), (0, .ref (q 46)), (1, .int x1), (2, .int x2), (4, .int x4_60)]) C.1 C.2.1 dX8_blows_212 rfl hl (by decide) rfl (fun ls hl => ?_)
          refine lv_iload_n C.1 C.2.1 dX8_blows_213 rfl (lv_at hl 0 rfl) ?_
          refine lv_if_ne (tgt := 220) C.1 C.2.1 dX8_blows_214 (by decide) (fun cn => ?_) (fun cn => ?_)
          · have hs := if_f cn hs
            refine lv_aload_n C.1 C.2.1 dX8_blows_220 rfl (lv_at hl 1 rfl) ?_
            refine mg_4 C hI dX8_blows_221 ?_
            refine lv_iload C.1 C.2.1 dX8_blows_224 (lv_at hl 4 rfl) ?_
            refine lv_iconst (v := 1) C.1 C.2.1 dX8_blows_226 (by decide) ?_
            obtain ⟨hk, hs⟩ := ck_e hs
            refine ms_4 C hI hk dX8_blows_227 (fun H locs hI => ?_)
            have hs := gv_be hs
            refine lv_aload_n C.1 C.2.1 dX8_blows_228 rfl (lv_at hl 1 rfl) ?_
            refine mg_14 C hI dX8_blows_229 ?_
            refine lv_aload_n C.1 C.2.1 dX8_blows_232 rfl (lv_at hl 1 rfl) ?_
            refine mg_15 C hI dX8_blows_233 ?_
            refine lv_iload C.1 C.2.1 dX8_blows_236 (lv_at hl 4 rfl) ?_
            obtain ⟨hk, hs⟩ := ck_e hs
            refine ms_14 C hI hk dX8_blows_238 (fun H locs hI => ?_)
            have hs := gv_be hs
            refine lv_aload_n C.1 C.2.1 dX8_blows_239 rfl (lv_at hl 1 rfl) ?_
            refine lv_dup C.1 C.2.1 dX8_blows_240 rfl ?_
            refine mg_15 C hI dX8_blows_241 ?_
            refine lv_iconst (v := 1) C.1 C.2.1 dX8_blows_244 (by decide) ?_
            refine lv_iadd C.1 C.2.1 dX8_blows_245 ?_
            refine mp_15 C hI dX8_blows_246 (fun H locs hI => ?_)
            have hs := gv_be hs
            refine lv_goto (tgt := 16) C.1 C.2.1 dX8_blows_249 (by decide) ?_
            exact ih _ _ _ _ _ _ _ _ _ _ _ _ hs hI (lv_sub hl [1, 2, 3, 0] rfl) kk0
          · have hs := if_t cn hs
            refine lv_goto (tgt := 16) C.1 C.2.1 dX8_blows_217 (by decide) ?_
            exact ih _ _ _ _ _ _ _ _ _ _ _ _ hs hI (lv_sub hl [1, 2, 3, 0] rfl) kk0
        refine lv_icmp_eq (tgt := 211) C.1 C.2.1 dX8_blows_204 (by decide) (fun cn => ?_) (fun cn => ?_)
        · have ev_212 := if_t' cn ev_212
          refine lv_iconst (v := 0) C.1 C.2.1 dX8_blows_211 (by decide) ?_
          subst ev_212
          exact KP_212
        · have ev_212 := if_f' cn ev_212
          refine lv_iconst (v := 1) C.1 C.2.1 dX8_blows_207 (by decide) ?_
          refine lv_goto (tgt := 212) C.1 C.2.1 dX8_blows_208 (by decide) ?_
          subst ev_212
          exact KP_212
  obtain ⟨⟨I_L, J_L, A_L, B_L⟩, hL, hs⟩ := bd_e hs
  refine KL_16 FU _ _ _ _ _ _ _ _ _ _ _ _ hL hI (lv_sub hl [1, 2, 3, 0] rfl) (fun z0 z1 z2 z3 H locs ls eo hI hl => ?_)
  obtain ⟨rfl, rfl, rfl, rfl⟩ := pr4 eo
  obtain ⟨rfl, rfl, rfl, rfl⟩ := so4 hs
  exact M_vret C hI dX8_blows_252

def lX8_asksJoint_24 : Nat → Int32 → Int32 → Int32 → Int32 → (Nat → Int32) → (Nat → Int64) → (Nat → Nat → Int32) → (Nat → Nat → Int64) → Option ((Nat → Nat → Int64))
  | 0, _, _, _, _, _, _, _, _ => none
  | n + 1, x1, x2, x3, x4, I, J, A, B =>
    if (10 : Int32) ≤ x4 then
    (some B)
    else
    ck (inB x4 10) <|
    gv (va_up B 32 (vp_updL (B 32) (ix x4) (0 : Int64))) fun B =>
    gv (x4 + 1) fun x4_39 =>
    lX8_asksJoint_24 n x1 x2 x3 x4_39 I J A B
def sX8_asksJoint (x1 : Int32) (x2 : Int32) (x3 : Int32) (I : Nat → Int32) (J : Nat → Int64) (A : Nat → Nat → Int32) (B : Nat → Nat → Int64) : Option ((Nat → Int64) × (Nat → Nat → Int32) × (Nat → Nat → Int64)) :=
(sX8_noneGone  I J A B).bind fun A =>
(sX8_lays x3 (1 : Int32) (x1 / (8 : Int32)) I J A B).bind fun (r_11, J, B) =>
(sX8_pulls x1 (0 : Int32) I J A B).bind fun J =>
(lX8_asksJoint_24 FU x1 x2 x3 (0 : Int32) I J A B).bind fun B =>
ck (nzL (J 13)) <|
gv (va_up B 32 (vp_updL (B 32) (ix (0 : Int32)) ((J 12) / (J 13)))) fun B =>
ck (inB ((150 : Int32) + (x1 / (8 : Int32))) 8047) <|
gv (va_up B 32 (vp_updL (B 32) (ix (1 : Int32)) (((A 1 (ix ((150 : Int32) + (x1 / (8 : Int32)))))).toInt64))) fun B =>
gv (va_up B 32 (vp_updL (B 32) (ix (2 : Int32)) (((x1 / (8 : Int32))).toInt64))) fun B =>
gv (va_up B 32 (vp_updL (B 32) (ix (3 : Int32)) ((((x1 / (2 : Int32)) - (x1 / (2 : Int32)) / (4 : Int32) * (4 : Int32))).toInt64))) fun B =>
gv (va_up B 32 (vp_updL (B 32) (ix (4 : Int32)) (x2.toInt64))) fun B =>
(sX8_holdsOf x1 I J A B).bind fun r_118 =>
gv (va_up B 32 (vp_updL (B 32) (ix (5 : Int32)) (r_118.toInt64))) fun B =>
(sX8_term (3 : Int32) I J A B).bind fun r_131 =>
gv (va_up B 32 (vp_updL (B 32) (ix (6 : Int32)) (r_131.toInt64))) fun B =>
ck (inB ((48 : Int32) + x1) 8047) <|
gv (if (A 1 (ix ((48 : Int32) + x1))) = 0 then (1 : Int32) else (0 : Int32)) fun v_158 =>
gv (va_up A 33 (upd (A 33) (ix (0 : Int32)) (vp_nar .boolean v_158))) fun A =>
ck (inB ((48 : Int32) + x1) 8047) <|
gv (if (A 1 (ix ((48 : Int32) + x1))) = (1 : Int32) then (1 : Int32) else (0 : Int32)) fun v_182 =>
gv (va_up A 33 (upd (A 33) (ix (1 : Int32)) (vp_nar .boolean v_182))) fun A =>
ck (inB ((48 : Int32) + x1) 8047) <|
gv (fun (y2_j218 : Int32) (J : Nat → Int64) (A : Nat → Nat → Int32) (B : Nat → Nat → Int64) =>
gv (va_up A 33 (upd (A 33) (ix (2 : Int32)) (vp_nar .boolean y2_j218))) fun A =>
(sX8_windOf x3 (0 : Int32) I J A B).bind fun r_227 =>
gv (if (r_227 - r_227 / (2 : Int32) * (2 : Int32)) = 0 then (1 : Int32) else (0 : Int32)) fun v_240 =>
gv (va_up A 33 (upd (A 33) (ix (3 : Int32)) (vp_nar .boolean v_240))) fun A =>
some (J, A, B)) fun k_218 =>
gv (fun (J : Nat → Int64) (A : Nat → Nat → Int32) (B : Nat → Nat → Int64) =>
k_218 (0 : Int32) J A B) fun k_217 =>
if (A 1 (ix ((48 : Int32) + x1))) = (1 : Int32) then
(ck (inB ((96 : Int32) + x1) 8047) <|
if (A 1 (ix ((96 : Int32) + x1))) ≤ 0 then
(k_217 J A B)
else
k_218 (1 : Int32) J A B)
else
k_217 J A B
set_option maxRecDepth 100000 in
set_option maxHeartbeats 8000000 in
theorem kX8_asksJoint (l : Launch) (D : va_G) (cy : Nat → ClassId) (q : Nat → Nat) (x1 : Int32) (x2 : Int32) (x3 : Int32) (I : Nat → Int32) (J : Nat → Int64) (A : Nat → Nat → Int32) (B : Nat → Nat → Int64) (J2 : Nat → Int64) (A2 : Nat → Nat → Int32) (B2 : Nat → Nat → Int64) (hs : sX8_asksJoint x1 x2 x3 I J A B = some (J2, A2, B2)) : McI l yX8_asksJoint cX8_asksJoint 5 none 3 [.ref (q 46), .int x1, .int x2, .int x3] D cy q I J A B none I J2 A2 B2 := by
  refine M_start rfl rfl (Nat.le_of_ble_eq_true rfl) ?_
  intro p e s m args below meth c H locs C hI ls hl
  have hl : lv_has ls 5 [(0, .ref (q 46)), (1, .int x1), (2, .int x2), (3, .int x3)] := hl
  rw [sX8_asksJoint] at hs
  refine lv_aload_n C.1 C.2.1 dX8_asksJoint_0 rfl (lv_at hl 0 rfl) ?_
  obtain ⟨A, hc, hs⟩ := bd_e hs
  refine M_call C hI (kX8_noneGone l D cy q _ _ _ _ _ hc) ml_X8_141 im_X8_noneGone se_X8_noneGone ini_X8 co_X8_noneGone hyX8_noneGone rfl ⟨by decide, by decide⟩ hl.1 rfl (Nat.le_of_ble_eq_true rfl) dX8_asksJoint_1 (fun H locs hI => ?_)
  refine lv_aload_n C.1 C.2.1 dX8_asksJoint_4 rfl (lv_at hl 0 rfl) ?_
  refine lv_iload_n C.1 C.2.1 dX8_asksJoint_5 rfl (lv_at hl 3 rfl) ?_
  refine lv_iconst (v := 1) C.1 C.2.1 dX8_asksJoint_6 (by decide) ?_
  refine lv_iload_n C.1 C.2.1 dX8_asksJoint_7 rfl (lv_at hl 1 rfl) ?_
  refine lv_bipush (v := 8) C.1 C.2.1 dX8_asksJoint_8 (by decide) ?_
  refine lv_idiv C.1 C.2.1 dX8_asksJoint_10 (by decide) ?_
  obtain ⟨⟨r_11, J, B⟩, hc, hs⟩ := bd_e hs
  refine M_call C hI (kX8_lays l D cy q _ _ _ _ _ _ _ _ _ _ hc) ml_X8_144 im_X8_lays se_X8_lays ini_X8 co_X8_lays hyX8_lays rfl ⟨by decide, by decide⟩ hl.1 rfl (Nat.le_of_ble_eq_true rfl) dX8_asksJoint_11 (fun H locs hI => ?_)
  refine lv_pop C.1 C.2.1 dX8_asksJoint_14 rfl ?_
  refine lv_aload_n C.1 C.2.1 dX8_asksJoint_15 rfl (lv_at hl 0 rfl) ?_
  refine lv_iload_n C.1 C.2.1 dX8_asksJoint_16 rfl (lv_at hl 1 rfl) ?_
  refine lv_iconst (v := 0) C.1 C.2.1 dX8_asksJoint_17 (by decide) ?_
  obtain ⟨J, hc, hs⟩ := bd_e hs
  refine M_call C hI (kX8_pulls l D cy q _ _ _ _ _ _ _ hc) ml_X8_147 im_X8_pulls se_X8_pulls ini_X8 co_X8_pulls hyX8_pulls rfl ⟨by decide, by decide⟩ hl.1 rfl (Nat.le_of_ble_eq_true rfl) dX8_asksJoint_18 (fun H locs hI => ?_)
  refine lv_iconst (v := 0) C.1 C.2.1 dX8_asksJoint_21 (by decide) ?_
  refine lv_istore (lv' := [(4, .int (0 : Int32)), (0, .ref (q 46)), (1, .int x1), (2, .int x2), (3, .int x3)]) C.1 C.2.1 dX8_asksJoint_22 hl (by decide) rfl (fun ls hl => ?_)
  have KL_24 : ∀ (n : Nat) (x1 : Int32) (x2 : Int32) (x3 : Int32) (x4 : Int32) (I : Nat → Int32) (J : Nat → Int64) (A : Nat → Nat → Int32) (B : Nat → Nat → Int64) (o : (Nat → Nat → Int64)) (Q : State → Prop) (H : Heap) (locs : List Loc) (ls : Array Slot), lX8_asksJoint_24 n x1 x2 x3 x4 I J A B = some o → MI D cy s s.heap H locs q I J A B → lv_has ls 5 [(0, .ref (q 46)), (1, .int x1), (2, .int x2), (3, .int x3), (4, .int x4)] → (∀ (B_0 : Nat → Nat → Int64) (H : Heap) (locs : List Loc) (ls : Array Slot), o = B_0 → MI D cy s s.heap H locs q I J A B_0 → lv_has ls 5 [(0, .ref (q 46)), (1, .int x1), (2, .int x2), (3, .int x3)] → W p l e (rmL 3) s m args below meth c H locs 0 0 Q (F0 m 45 ls [])) → W p l e (rmL 3) s m args below meth c H locs 0 0 Q (F0 m 24 ls []) := by
    intro n; induction n with
    | zero => intro x1 x2 x3 x4 I J A B o Q H locs ls hs; rw [lX8_asksJoint_24] at hs; cases hs
    | succ n ih =>
      intro x1 x2 x3 x4 I J A B o Q H locs ls hs hI hl kk0
      rw [lX8_asksJoint_24] at hs
      refine lv_iload C.1 C.2.1 dX8_asksJoint_24 (lv_at hl 4 rfl) ?_
      refine lv_bipush (v := 10) C.1 C.2.1 dX8_asksJoint_26 (by decide) ?_
      refine lv_icmp_ge (tgt := 45) C.1 C.2.1 dX8_asksJoint_28 (by decide) (fun cn => ?_) (fun cn => ?_)
      · have hs := if_t cn hs
        have eo := (Option.some.inj hs).symm
        exact kk0 _ _ _ _ eo hI (lv_sub hl [0, 1, 2, 3] rfl)
      · have hs := if_f cn hs
        refine lv_aload_n C.1 C.2.1 dX8_asksJoint_31 rfl (lv_at hl 0 rfl) ?_
        refine mg_32 C hI dX8_asksJoint_32 ?_
        refine lv_iload C.1 C.2.1 dX8_asksJoint_35 (lv_at hl 4 rfl) ?_
        refine lv_lconst (v := 0) C.1 C.2.1 dX8_asksJoint_37 (by decide) ?_
        obtain ⟨hk, hs⟩ := ck_e hs
        refine ms_32 C hI hk dX8_asksJoint_38 (fun H locs hI => ?_)
        have hs := gv_be hs
        obtain ⟨x4_39, ex4_39⟩ : ∃ y : Int32, y = (x4 + 1) := ⟨_, rfl⟩
        have hs := gv_at ex4_39 hs
        refine lv_iinc (v := x4_39) (lv' := [(4, .int x4_39), (0, .ref (q 46)), (1, .int x1), (2, .int x2), (3, .int x3)]) C.1 C.2.1 dX8_asksJoint_39 hl (k := 4) rfl (by rw [ex4_39]; rfl) (by decide) rfl (fun ls hl => ?_)
        refine lv_goto (tgt := 24) C.1 C.2.1 dX8_asksJoint_42 (by decide) ?_
        exact ih _ _ _ _ _ _ _ _ _ _ _ _ _ hs hI (lv_sub hl [1, 2, 3, 4, 0] rfl) kk0
  obtain ⟨B_L, hL, hs⟩ := bd_e hs
  refine KL_24 FU _ _ _ _ _ _ _ _ _ _ _ _ _ hL hI (lv_sub hl [1, 2, 3, 4, 0] rfl) (fun z0 H locs ls eo hI hl => ?_)
  subst eo
  refine lv_aload_n C.1 C.2.1 dX8_asksJoint_45 rfl (lv_at hl 0 rfl) ?_
  refine mg_32 C hI dX8_asksJoint_46 ?_
  refine lv_iconst (v := 0) C.1 C.2.1 dX8_asksJoint_49 (by decide) ?_
  refine lv_aload_n C.1 C.2.1 dX8_asksJoint_50 rfl (lv_at hl 0 rfl) ?_
  refine mg_12 C hI dX8_asksJoint_51 ?_
  refine lv_aload_n C.1 C.2.1 dX8_asksJoint_54 rfl (lv_at hl 0 rfl) ?_
  refine mg_13 C hI dX8_asksJoint_55 ?_
  obtain ⟨hz, hs⟩ := ck_e hs
  refine lv_ldiv C.1 C.2.1 dX8_asksJoint_58 (nzL_e hz) ?_
  refine ms_32 C hI (by decide) dX8_asksJoint_59 (fun H locs hI => ?_)
  have hs := gv_be hs
  refine lv_aload_n C.1 C.2.1 dX8_asksJoint_60 rfl (lv_at hl 0 rfl) ?_
  refine mg_32 C hI dX8_asksJoint_61 ?_
  refine lv_iconst (v := 1) C.1 C.2.1 dX8_asksJoint_64 (by decide) ?_
  refine lv_aload_n C.1 C.2.1 dX8_asksJoint_65 rfl (lv_at hl 0 rfl) ?_
  refine mg_1 C hI dX8_asksJoint_66 ?_
  refine lv_sipush (v := 150) C.1 C.2.1 dX8_asksJoint_69 (by decide) ?_
  refine lv_iload_n C.1 C.2.1 dX8_asksJoint_72 rfl (lv_at hl 1 rfl) ?_
  refine lv_bipush (v := 8) C.1 C.2.1 dX8_asksJoint_73 (by decide) ?_
  refine lv_idiv C.1 C.2.1 dX8_asksJoint_75 (by decide) ?_
  refine lv_iadd C.1 C.2.1 dX8_asksJoint_76 ?_
  obtain ⟨hk, hs⟩ := ck_e hs
  refine ma_1 C hI hk dX8_asksJoint_77 ?_
  refine lv_i2l C.1 C.2.1 dX8_asksJoint_78 rfl ?_
  refine ms_32 C hI (by decide) dX8_asksJoint_79 (fun H locs hI => ?_)
  have hs := gv_be hs
  refine lv_aload_n C.1 C.2.1 dX8_asksJoint_80 rfl (lv_at hl 0 rfl) ?_
  refine mg_32 C hI dX8_asksJoint_81 ?_
  refine lv_iconst (v := 2) C.1 C.2.1 dX8_asksJoint_84 (by decide) ?_
  refine lv_iload_n C.1 C.2.1 dX8_asksJoint_85 rfl (lv_at hl 1 rfl) ?_
  refine lv_bipush (v := 8) C.1 C.2.1 dX8_asksJoint_86 (by decide) ?_
  refine lv_idiv C.1 C.2.1 dX8_asksJoint_88 (by decide) ?_
  refine lv_i2l C.1 C.2.1 dX8_asksJoint_89 rfl ?_
  refine ms_32 C hI (by decide) dX8_asksJoint_90 (fun H locs hI => ?_)
  have hs := gv_be hs
  refine lv_aload_n C.1 C.2.1 dX8_asksJoint_91 rfl (lv_at hl 0 rfl) ?_
  refine mg_32 C hI dX8_asksJoint_92 ?_
  refine lv_iconst (v := 3) C.1 C.2.1 dX8_asksJoint_95 (by decide) ?_
  refine lv_iload_n C.1 C.2.1 dX8_asksJoint_96 rfl (lv_at hl 1 rfl) ?_
  refine lv_iconst (v := 2) C.1 C.2.1 dX8_asksJoint_97 (by decide) ?_
  refine lv_idiv C.1 C.2.1 dX8_asksJoint_98 (by decide) ?_
  refine lv_iconst (v := 4) C.1 C.2.1 dX8_asksJoint_99 (by decide) ?_
  refine lv_irem C.1 C.2.1 dX8_asksJoint_100 (by decide) ?_
  refine lv_i2l C.1 C.2.1 dX8_asksJoint_101 rfl ?_
  refine ms_32 C hI (by decide) dX8_asksJoint_102 (fun H locs hI => ?_)
  have hs := gv_be hs
  refine lv_aload_n C.1 C.2.1 dX8_asksJoint_103 rfl (lv_at hl 0 rfl) ?_
  refine mg_32 C hI dX8_asksJoint_104 ?_
  refine lv_iconst (v := 4) C.1 C.2.1 dX8_asksJoint_107 (by decide) ?_
  refine lv_iload_n C.1 C.2.1 dX8_asksJoint_108 rfl (lv_at hl 2 rfl) ?_
  refine lv_i2l C.1 C.2.1 dX8_asksJoint_109 rfl ?_
  refine ms_32 C hI (by decide) dX8_asksJoint_110 (fun H locs hI => ?_)
  have hs := gv_be hs
  refine lv_aload_n C.1 C.2.1 dX8_asksJoint_111 rfl (lv_at hl 0 rfl) ?_
  refine mg_32 C hI dX8_asksJoint_112 ?_
  refine lv_iconst (v := 5) C.1 C.2.1 dX8_asksJoint_115 (by decide) ?_
  refine lv_aload_n C.1 C.2.1 dX8_asksJoint_116 rfl (lv_at hl 0 rfl) ?_
  refine lv_iload_n C.1 C.2.1 dX8_asksJoint_117 rfl (lv_at hl 1 rfl) ?_
  obtain ⟨r_118, hc, hs⟩ := bd_e hs
  refine M_call C hI (kX8_holdsOf l D cy q _ _ _ _ _ _ hc) ml_X8_103 im_X8_holdsOf se_X8_holdsOf ini_X8 co_X8_holdsOf hyX8_holdsOf rfl ⟨by decide, by decide⟩ hl.1 rfl (Nat.le_of_ble_eq_true rfl) dX8_asksJoint_118 (fun H locs hI => ?_)
  refine lv_i2l C.1 C.2.1 dX8_asksJoint_121 rfl ?_
  refine ms_32 C hI (by decide) dX8_asksJoint_122 (fun H locs hI => ?_)
  have hs := gv_be hs
  refine lv_aload_n C.1 C.2.1 dX8_asksJoint_123 rfl (lv_at hl 0 rfl) ?_
  refine mg_32 C hI dX8_asksJoint_124 ?_
  refine lv_bipush (v := 6) C.1 C.2.1 dX8_asksJoint_127 (by decide) ?_
  refine lv_aload_n C.1 C.2.1 dX8_asksJoint_129 rfl (lv_at hl 0 rfl) ?_
  refine lv_iconst (v := 3) C.1 C.2.1 dX8_asksJoint_130 (by decide) ?_
  obtain ⟨r_131, hc, hs⟩ := bd_e hs
  refine M_call C hI (kX8_term l D cy q _ _ _ _ _ _ hc) ml_X8_99 im_X8_term se_X8_term ini_X8 co_X8_term hyX8_term rfl ⟨by decide, by decide⟩ hl.1 rfl (Nat.le_of_ble_eq_true rfl) dX8_asksJoint_131 (fun H locs hI => ?_)
  refine lv_i2l C.1 C.2.1 dX8_asksJoint_134 rfl ?_
  refine ms_32 C hI (by decide) dX8_asksJoint_135 (fun H locs hI => ?_)
  have hs := gv_be hs
  refine lv_aload_n C.1 C.2.1 dX8_asksJoint_136 rfl (lv_at hl 0 rfl) ?_
  refine mg_33 C hI dX8_asksJoint_137 ?_
  refine lv_iconst (v := 0) C.1 C.2.1 dX8_asksJoint_140 (by decide) ?_
  refine lv_aload_n C.1 C.2.1 dX8_asksJoint_141 rfl (lv_at hl 0 rfl) ?_
  refine mg_1 C hI dX8_asksJoint_142 ?_
  refine lv_bipush (v := 48) C.1 C.2.1 dX8_asksJoint_145 (by decide) ?_
  refine lv_iload_n C.1 C.2.1 dX8_asksJoint_147 rfl (lv_at hl 1 rfl) ?_
  refine lv_iadd C.1 C.2.1 dX8_asksJoint_148 ?_
  obtain ⟨hk, hs⟩ := ck_e hs
  refine ma_1 C hI hk dX8_asksJoint_149 ?_
  obtain ⟨v_158, ev_158, hs⟩ := gv_ex hs
  have KP_158 : W p l e (rmL 3) s m args below meth c H locs 0 0 (MQ below (mQ D cy q none I J2 A2 B2) args s 0 0 (MA q)) (F0 m 158 ls [.int v_158, .int (0 : Int32), .ref (q 33)]) := by
    refine ms_33 C hI (by decide) dX8_asksJoint_158 (fun H locs hI => ?_)
    have hs := gv_be hs
    refine lv_aload_n C.1 C.2.1 dX8_asksJoint_159 rfl (lv_at hl 0 rfl) ?_
    refine mg_33 C hI dX8_asksJoint_160 ?_
    refine lv_iconst (v := 1) C.1 C.2.1 dX8_asksJoint_163 (by decide) ?_
    refine lv_aload_n C.1 C.2.1 dX8_asksJoint_164 rfl (lv_at hl 0 rfl) ?_
    refine mg_1 C hI dX8_asksJoint_165 ?_
    refine lv_bipush (v := 48) C.1 C.2.1 dX8_asksJoint_168 (by decide) ?_
    refine lv_iload_n C.1 C.2.1 dX8_asksJoint_170 rfl (lv_at hl 1 rfl) ?_
    refine lv_iadd C.1 C.2.1 dX8_asksJoint_171 ?_
    obtain ⟨hk, hs⟩ := ck_e hs
    refine ma_1 C hI hk dX8_asksJoint_172 ?_
    refine lv_iconst (v := 1) C.1 C.2.1 dX8_asksJoint_173 (by decide) ?_
    obtain ⟨v_182, ev_182, hs⟩ := gv_ex hs
    have KP_182 : W p l e (rmL 3) s m args below meth c H locs 0 0 (MQ below (mQ D cy q none I J2 A2 B2) args s 0 0 (MA q)) (F0 m 182 ls [.int v_182, .int (1 : Int32), .ref (q 33)]) := by
      refine ms_33 C hI (by decide) dX8_asksJoint_182 (fun H locs hI => ?_)
      have hs := gv_be hs
      refine lv_aload_n C.1 C.2.1 dX8_asksJoint_183 rfl (lv_at hl 0 rfl) ?_
      refine mg_33 C hI dX8_asksJoint_184 ?_
      refine lv_iconst (v := 2) C.1 C.2.1 dX8_asksJoint_187 (by decide) ?_
      refine lv_aload_n C.1 C.2.1 dX8_asksJoint_188 rfl (lv_at hl 0 rfl) ?_
      refine mg_1 C hI dX8_asksJoint_189 ?_
      refine lv_bipush (v := 48) C.1 C.2.1 dX8_asksJoint_192 (by decide) ?_
      refine lv_iload_n C.1 C.2.1 dX8_asksJoint_194 rfl (lv_at hl 1 rfl) ?_
      refine lv_iadd C.1 C.2.1 dX8_asksJoint_195 ?_
      obtain ⟨hk, hs⟩ := ck_e hs
      refine ma_1 C hI hk dX8_asksJoint_196 ?_
      refine lv_iconst (v := 1) C.1 C.2.1 dX8_asksJoint_197 (by decide) ?_
      obtain ⟨k_218, ek_218, hs⟩ := gv_ex hs
      have KJ_218 : ∀ (y2_j218 : Int32) (J : Nat → Int64) (A : Nat → Nat → Int32) (B : Nat → Nat → Int64) (H : Heap) (locs : List Loc) (ls : Array Slot), k_218 y2_j218 J A B = some (J2, A2, B2) → MI D cy s s.heap H locs q I J A B → lv_has ls 5 [(0, .ref (q 46)), (3, .int x3)] → W p l e (rmL 3) s m args below meth c H locs 0 0 (MQ below (mQ D cy q none I J2 A2 B2) args s 0 0 (MA q)) (F0 m 218 ls [.int y2_j218, .int (2 : Int32), .ref (q 33)]) := by
        intro y2_j218 J A B H locs ls hs hI hl
        rw [ek_218] at hs
        refine ms_33 C hI (by decide) dX8_asksJoint_218 (fun H locs hI => ?_)
        have hs := gv_be hs
        refine lv_aload_n C.1 C.2.1 dX8_asksJoint_219 rfl (lv_at hl 0 rfl) ?_
        refine mg_33 C hI dX8_asksJoint_220 ?_
        refine lv_iconst (v := 3) C.1 C.2.1 dX8_asksJoint_223 (by decide) ?_
        refine lv_aload_n C.1 C.2.1 dX8_asksJoint_224 rfl (lv_at hl 0 rfl) ?_
        refine lv_iload_n C.1 C.2.1 dX8_asksJoint_225 rfl (lv_at hl 1 rfl) ?_
        refine lv_iconst (v := 0) C.1 C.2.1 dX8_asksJoint_226 (by decide) ?_
        obtain ⟨r_227, hc, hs⟩ := bd_e hs
        refine M_call C hI (kX8_windOf l D cy q _ _ _ _ _ _ _ hc) ml_X8_109 im_X8_windOf se_X8_windOf ini_X8 co_X8_windOf hyX8_windOf rfl ⟨by decide, by decide⟩ hl.1 rfl (Nat.le_of_ble_eq_true rfl) dX8_asksJoint_227 (fun H locs hI => ?_)
        refine lv_iconst (v := 2) C.1 C.2.1 dX8_asksJoint_230 (by decide) ?_
        refine lv_irem C.1 C.2.1 dX8_asksJoint_231 (by decide) ?_
        obtain ⟨v_240, ev_240, hs⟩ := gv_ex hs
        have KP_240 : W p l e (rmL 3) s m args below meth c H locs 0 0 (MQ below (mQ D cy q none I J2 A2 B2) args s 0 0 (MA q)) (F0 m 240 ls [.int v_240, .int (3 : Int32), .ref (q 33)]) := by
          refine ms_33 C hI (by decide) dX8_asksJoint_240 (fun H locs hI => ?_)
          have hs := gv_be hs
          obtain ⟨rfl, rfl, rfl⟩ := so3 hs
          exact M_vret C hI dX8_asksJoint_241
        refine lv_if_ne (tgt := 239) C.1 C.2.1 dX8_asksJoint_232 (by decide) (fun cn => ?_) (fun cn => ?_)
        · have ev_240 := if_f' cn ev_240
          refine lv_iconst (v := 0) C.1 C.2.1 dX8_asksJoint_239 (by decide) ?_
          subst ev_240
          exact KP_240
        · have ev_240 := if_t' cn ev_240
          refine lv_iconst (v := 1) C.1 C.2.1 dX8_asksJoint_235 (by decide) ?_
          refine lv_goto (tgt := 240) C.1 C.2.1 dX8_asksJoint_236 (by decide) ?_
          subst ev_240
          exact KP_240
      obtain ⟨k_217, ek_217, hs⟩ := gv_ex hs
      have KJ_217 : ∀ (J : Nat → Int64) (A : Nat → Nat → Int32) (B : Nat → Nat → Int64) (H : Heap) (locs : List Loc) (ls : Array Slot), k_217 J A B = some (J2, A2, B2) → MI D cy s s.heap H locs q I J A B → lv_has ls 5 [(0, .ref (q 46)), (3, .int x3)] → W p l e (rmL 3) s m args below meth c H locs 0 0 (MQ below (mQ D cy q none I J2 A2 B2) args s 0 0 (MA q)) (F0 m 217 ls [.int (2 : Int32), .ref (q 33)]) := by
        intro J A B H locs ls hs hI hl
        rw [ek_217] at hs
        refine lv_iconst (v := 0) C.1 C.2.1 dX8_asksJoint_217 (by decide) ?_
        exact KJ_218 _ _ _ _ _ _ _ hs hI (lv_sub hl [0, 1] rfl)
      refine lv_icmp_ne (tgt := 217) C.1 C.2.1 dX8_asksJoint_198 (by decide) (fun cn => ?_) (fun cn => ?_)
      · have hs := if_f cn hs
        exact KJ_217 _ _ _ _ _ _ hs hI (lv_sub hl [0, 3] rfl)
      · have hs := if_t cn hs
        refine lv_aload_n C.1 C.2.1 dX8_asksJoint_201 rfl (lv_at hl 0 rfl) ?_
        refine mg_1 C hI dX8_asksJoint_202 ?_
        refine lv_bipush (v := 96) C.1 C.2.1 dX8_asksJoint_205 (by decide) ?_
        refine lv_iload_n C.1 C.2.1 dX8_asksJoint_207 rfl (lv_at hl 1 rfl) ?_
        refine lv_iadd C.1 C.2.1 dX8_asksJoint_208 ?_
        obtain ⟨hk, hs⟩ := ck_e hs
        refine ma_1 C hI hk dX8_asksJoint_209 ?_
        refine lv_if_le (tgt := 217) C.1 C.2.1 dX8_asksJoint_210 (by decide) (fun cn => ?_) (fun cn => ?_)
        · have hs := if_t cn hs
          exact KJ_217 _ _ _ _ _ _ hs hI (lv_sub hl [0, 3] rfl)
        · have hs := if_f cn hs
          refine lv_iconst (v := 1) C.1 C.2.1 dX8_asksJoint_213 (by decide) ?_
          refine lv_goto (tgt := 218) C.1 C.2.1 dX8_asksJoint_214 (by decide) ?_
          exact KJ_218 _ _ _ _ _ _ _ hs hI (lv_sub hl [0, 3] rfl)
    refine lv_icmp_ne (tgt := 181) C.1 C.2.1 dX8_asksJoint_174 (by decide) (fun cn => ?_) (fun cn => ?_)
    · have ev_182 := if_f' cn ev_182
      refine lv_iconst (v := 0) C.1 C.2.1 dX8_asksJoint_181 (by decide) ?_
      subst ev_182
      exact KP_182
    · have ev_182 := if_t' cn ev_182
      refine lv_iconst (v := 1) C.1 C.2.1 dX8_asksJoint_177 (by decide) ?_
      refine lv_goto (tgt := 182) C.1 C.2.1 dX8_asksJoint_178 (by decide) ?_
      subst ev_182
      exact KP_182
  refine lv_if_ne (tgt := 157) C.1 C.2.1 dX8_asksJoint_150 (by decide) (fun cn => ?_) (fun cn => ?_)
  · have ev_158 := if_f' cn ev_158
    refine lv_iconst (v := 0) C.1 C.2.1 dX8_asksJoint_157 (by decide) ?_
    subst ev_158
    exact KP_158
  · have ev_158 := if_t' cn ev_158
    refine lv_iconst (v := 1) C.1 C.2.1 dX8_asksJoint_153 (by decide) ?_
    refine lv_goto (tgt := 158) C.1 C.2.1 dX8_asksJoint_154 (by decide) ?_
    subst ev_158
    exact KP_158

def lX8_isEnough_11 : Nat → Int32 → Int32 → Int64 → Int32 → (Nat → Int32) → (Nat → Int64) → (Nat → Nat → Int32) → (Nat → Nat → Int64) → Option (Int32 × Int64 × (Nat → Int64) × (Nat → Nat → Int64))
  | 0, _, _, _, _, _, _, _, _ => none
  | n + 1, x1, x2, x3, x5, I, J, A, B =>
    if (A 1 (ix (1633 : Int32))) ≤ x5 then
    (some (x2, x3, J, B))
    else
    (sX8_windOf x5 (0 : Int32) I J A B).bind fun r_28 =>
    if (r_28 - r_28 / (2 : Int32) * (2 : Int32)) = (1 : Int32) then
    (gv (x5 + 1) fun x5_78 =>
    lX8_isEnough_11 n x1 x2 x3 x5_78 I J A B)
    else
    (sX8_lays x5 (1 : Int32) (x1 / (8 : Int32)) I J A B).bind fun (r_48, J, B) =>
    (sX8_pulls x1 (1 : Int32) I J A B).bind fun J =>
    if x2 = 0 then
    (gv (J 12) fun x3_75 =>
    gv (x5 + 1) fun x5_78 =>
    lX8_isEnough_11 n x1 (1 : Int32) x3_75 x5_78 I J A B)
    else
    if (lg_cmp (J 12) x3) ≤ 0 then
    (gv (x5 + 1) fun x5_78 =>
    lX8_isEnough_11 n x1 (1 : Int32) x3 x5_78 I J A B)
    else
    gv (J 12) fun x3_75 =>
    gv (x5 + 1) fun x5_78 =>
    lX8_isEnough_11 n x1 (1 : Int32) x3_75 x5_78 I J A B
def lX8_isEnough_87 : Nat → Int32 → Int32 → Int64 → Int32 → (Nat → Int32) → (Nat → Int64) → (Nat → Nat → Int32) → (Nat → Nat → Int64) → Option (((Nat → Int64) × (Nat → Nat → Int64)) ⊕ ((Nat → Int64) × (Nat → Nat → Int64)))
  | 0, _, _, _, _, _, _, _, _ => none
  | n + 1, x1, x2, x3, x5, I, J, A, B =>
    if (A 1 (ix (1633 : Int32))) ≤ x5 then
    (some (.inr (J, B)))
    else
    (sX8_windOf x5 (0 : Int32) I J A B).bind fun r_104 =>
    if (r_104 - r_104 / (2 : Int32) * (2 : Int32)) = 0 then
    (gv (x5 + 1) fun x5_148 =>
    lX8_isEnough_87 n x1 x2 x3 x5_148 I J A B)
    else
    (sX8_lays x5 (1 : Int32) (x1 / (8 : Int32)) I J A B).bind fun (r_123, J, B) =>
    (sX8_pulls x1 (1 : Int32) I J A B).bind fun J =>
    if x2 = 0 then
    (some (.inl (J, B)))
    else
    if (lg_cmp (J 12) x3) ≤ 0 then
    (gv (x5 + 1) fun x5_148 =>
    lX8_isEnough_87 n x1 x2 x3 x5_148 I J A B)
    else
    some (.inl (J, B))
def sX8_isEnough (x1 : Int32) (I : Nat → Int32) (J : Nat → Int64) (A : Nat → Nat → Int32) (B : Nat → Nat → Int64) : Option ((Int32) × (Nat → Int64) × (Nat → Nat → Int32) × (Nat → Nat → Int64)) :=
(sX8_noneGone  I J A B).bind fun A =>
(lX8_isEnough_11 FU x1 (0 : Int32) (0 : Int64) (0 : Int32) I J A B).bind fun (x2_11, x3_11, J, B) =>
(lX8_isEnough_87 FU x1 x2_11 x3_11 (0 : Int32) I J A B).bind fun o_87 => match o_87 with
| .inl (J, B) =>
some ((0 : Int32), J, A, B)
| .inr (J, B) =>
some ((1 : Int32), J, A, B)
set_option maxRecDepth 100000 in
set_option maxHeartbeats 8000000 in
theorem kX8_isEnough (l : Launch) (D : va_G) (cy : Nat → ClassId) (q : Nat → Nat) (x1 : Int32) (I : Nat → Int32) (J : Nat → Int64) (A : Nat → Nat → Int32) (B : Nat → Nat → Int64) (r : Int32) (J2 : Nat → Int64) (A2 : Nat → Nat → Int32) (B2 : Nat → Nat → Int64) (hs : sX8_isEnough x1 I J A B = some (r, J2, A2, B2)) : McI l yX8_isEnough cX8_isEnough 6 (some .boolean) 3 [.ref (q 46), .int x1] D cy q I J A B (some (.int r)) I J2 A2 B2 := by
  refine M_start rfl rfl (Nat.le_of_ble_eq_true rfl) ?_
  intro p e s m args below meth c H locs C hI ls hl
  have hl : lv_has ls 6 [(0, .ref (q 46)), (1, .int x1)] := hl
  rw [sX8_isEnough] at hs
  refine lv_iconst (v := 0) C.1 C.2.1 dX8_isEnough_0 (by decide) ?_
  refine lv_istore_n (lv' := [(2, .int (0 : Int32)), (0, .ref (q 46)), (1, .int x1)]) C.1 C.2.1 dX8_isEnough_1 rfl hl (by decide) rfl (fun ls hl => ?_)
  refine lv_lconst (v := 0) C.1 C.2.1 dX8_isEnough_2 (by decide) ?_
  refine lv_lstore_n (lv' := [(3, .long (0 : Int64)), (2, .int (0 : Int32)), (0, .ref (q 46)), (1, .int x1)]) C.1 C.2.1 dX8_isEnough_3 rfl hl (by decide) rfl (fun ls hl => ?_)
  refine lv_aload_n C.1 C.2.1 dX8_isEnough_4 rfl (lv_at hl 2 rfl) ?_
  obtain ⟨A, hc, hs⟩ := bd_e hs
  refine M_call C hI (kX8_noneGone l D cy q _ _ _ _ _ hc) ml_X8_141 im_X8_noneGone se_X8_noneGone ini_X8 co_X8_noneGone hyX8_noneGone rfl ⟨by decide, by decide⟩ hl.1 rfl (Nat.le_of_ble_eq_true rfl) dX8_isEnough_5 (fun H locs hI => ?_)
  refine lv_iconst (v := 0) C.1 C.2.1 dX8_isEnough_8 (by decide) ?_
  refine lv_istore (lv' := [(5, .int (0 : Int32)), (3, .long (0 : Int64)), (2, .int (0 : Int32)), (0, .ref (q 46)), (1, .int x1)]) C.1 C.2.1 dX8_isEnough_9 hl (by decide) rfl (fun ls hl => ?_)
  have KL_11 : ∀ (n : Nat) (x1 : Int32) (x2 : Int32) (x3 : Int64) (x5 : Int32) (I : Nat → Int32) (J : Nat → Int64) (A : Nat → Nat → Int32) (B : Nat → Nat → Int64) (o : Int32 × Int64 × (Nat → Int64) × (Nat → Nat → Int64)) (Q : State → Prop) (H : Heap) (locs : List Loc) (ls : Array Slot), lX8_isEnough_11 n x1 x2 x3 x5 I J A B = some o → MI D cy s s.heap H locs q I J A B → lv_has ls 6 [(0, .ref (q 46)), (1, .int x1), (2, .int x2), (3, .long x3), (5, .int x5)] → (∀ (o2_0 : Int32) (o3_0 : Int64) (J_0 : Nat → Int64) (B_0 : Nat → Nat → Int64) (H : Heap) (locs : List Loc) (ls : Array Slot), o = (o2_0, o3_0, J_0, B_0) → MI D cy s s.heap H locs q I J_0 A B_0 → lv_has ls 6 [(0, .ref (q 46)), (1, .int x1), (2, .int o2_0), (3, .long o3_0)] → W p l e (rmL 3) s m args below meth c H locs 0 0 Q (F0 m 84 ls [])) → W p l e (rmL 3) s m args below meth c H locs 0 0 Q (F0 m 11 ls []) := by
    intro n; induction n with
    | zero => intro x1 x2 x3 x5 I J A B o Q H locs ls hs; rw [lX8_isEnough_11] at hs; cases hs
    | succ n ih =>
      intro x1 x2 x3 x5 I J A B o Q H locs ls hs hI hl kk0
      rw [lX8_isEnough_11] at hs
      refine lv_iload C.1 C.2.1 dX8_isEnough_11 (lv_at hl 4 rfl) ?_
      refine lv_aload_n C.1 C.2.1 dX8_isEnough_13 rfl (lv_at hl 0 rfl) ?_
      refine mg_1 C hI dX8_isEnough_14 ?_
      refine lv_sipush (v := 1633) C.1 C.2.1 dX8_isEnough_17 (by decide) ?_
      refine ma_1 C hI (by decide) dX8_isEnough_20 ?_
      refine lv_icmp_ge (tgt := 84) C.1 C.2.1 dX8_isEnough_21 (by decide) (fun cn => ?_) (fun cn => ?_)
      · have hs := if_t cn hs
        have eo := (Option.some.inj hs).symm
        exact kk0 _ _ _ _ _ _ _ eo hI (lv_sub hl [0, 1, 2, 3] rfl)
      · have hs := if_f cn hs
        refine lv_aload_n C.1 C.2.1 dX8_isEnough_24 rfl (lv_at hl 0 rfl) ?_
        refine lv_iload C.1 C.2.1 dX8_isEnough_25 (lv_at hl 4 rfl) ?_
        refine lv_iconst (v := 0) C.1 C.2.1 dX8_isEnough_27 (by decide) ?_
        obtain ⟨r_28, hc, hs⟩ := bd_e hs
        refine M_call C hI (kX8_windOf l D cy q _ _ _ _ _ _ _ hc) ml_X8_109 im_X8_windOf se_X8_windOf ini_X8 co_X8_windOf hyX8_windOf rfl ⟨by decide, by decide⟩ hl.1 rfl (Nat.le_of_ble_eq_true rfl) dX8_isEnough_28 (fun H locs hI => ?_)
        refine lv_iconst (v := 2) C.1 C.2.1 dX8_isEnough_31 (by decide) ?_
        refine lv_irem C.1 C.2.1 dX8_isEnough_32 (by decide) ?_
        refine lv_iconst (v := 1) C.1 C.2.1 dX8_isEnough_33 (by decide) ?_
        refine lv_icmp_ne (tgt := 40) C.1 C.2.1 dX8_isEnough_34 (by decide) (fun cn => ?_) (fun cn => ?_)
        · have hs := if_f cn hs
          refine lv_aload_n C.1 C.2.1 dX8_isEnough_40 rfl (lv_at hl 0 rfl) ?_
          refine lv_iload C.1 C.2.1 dX8_isEnough_41 (lv_at hl 4 rfl) ?_
          refine lv_iconst (v := 1) C.1 C.2.1 dX8_isEnough_43 (by decide) ?_
          refine lv_iload_n C.1 C.2.1 dX8_isEnough_44 rfl (lv_at hl 1 rfl) ?_
          refine lv_bipush (v := 8) C.1 C.2.1 dX8_isEnough_45 (by decide) ?_
          refine lv_idiv C.1 C.2.1 dX8_isEnough_47 (by decide) ?_
          obtain ⟨⟨r_48, J, B⟩, hc, hs⟩ := bd_e hs
          refine M_call C hI (kX8_lays l D cy q _ _ _ _ _ _ _ _ _ _ hc) ml_X8_144 im_X8_lays se_X8_lays ini_X8 co_X8_lays hyX8_lays rfl ⟨by decide, by decide⟩ hl.1 rfl (Nat.le_of_ble_eq_true rfl) dX8_isEnough_48 (fun H locs hI => ?_)
          refine lv_pop C.1 C.2.1 dX8_isEnough_51 rfl ?_
          refine lv_aload_n C.1 C.2.1 dX8_isEnough_52 rfl (lv_at hl 0 rfl) ?_
          refine lv_iload_n C.1 C.2.1 dX8_isEnough_53 rfl (lv_at hl 1 rfl) ?_
          refine lv_iconst (v := 1) C.1 C.2.1 dX8_isEnough_54 (by decide) ?_
          obtain ⟨J, hc, hs⟩ := bd_e hs
          refine M_call C hI (kX8_pulls l D cy q _ _ _ _ _ _ _ hc) ml_X8_147 im_X8_pulls se_X8_pulls ini_X8 co_X8_pulls hyX8_pulls rfl ⟨by decide, by decide⟩ hl.1 rfl (Nat.le_of_ble_eq_true rfl) dX8_isEnough_55 (fun H locs hI => ?_)
          refine lv_iload_n C.1 C.2.1 dX8_isEnough_58 rfl (lv_at hl 2 rfl) ?_
          refine lv_if_eq (tgt := 71) C.1 C.2.1 dX8_isEnough_59 (by decide) (fun cn => ?_) (fun cn => ?_)
          · have hs := if_t cn hs
            refine lv_aload_n C.1 C.2.1 dX8_isEnough_71 rfl (lv_at hl 0 rfl) ?_
            refine mg_12 C hI dX8_isEnough_72 ?_
            refine lv_topl (fun x3_75 ex3_75 => ?_)
            have hs := gv_at ex3_75 hs
            refine lv_lstore_n (lv' := [(3, .long x3_75), (0, .ref (q 46)), (1, .int x1), (2, .int x2), (5, .int x5)]) C.1 C.2.1 dX8_isEnough_75 rfl hl (by decide) rfl (fun ls hl => ?_)
            refine lv_iconst (v := 1) C.1 C.2.1 dX8_isEnough_76 (by decide) ?_
            refine lv_istore_n (lv' := [(2, .int (1 : Int32)), (3, .long x3_75), (0, .ref (q 46)), (1, .int x1), (5, .int x5)]) C.1 C.2.1 dX8_isEnough_77 rfl hl (by decide) rfl (fun ls hl => ?_)
            obtain ⟨x5_78, ex5_78⟩ : ∃ y : Int32, y = (x5 + 1) := ⟨_, rfl⟩
            have hs := gv_at ex5_78 hs
            refine lv_iinc (v := x5_78) (lv' := [(5, .int x5_78), (2, .int (1 : Int32)), (3, .long x3_75), (0, .ref (q 46)), (1, .int x1)]) C.1 C.2.1 dX8_isEnough_78 hl (k := 4) rfl (by rw [ex5_78]; rfl) (by decide) rfl (fun ls hl => ?_)
            refine lv_goto (tgt := 11) C.1 C.2.1 dX8_isEnough_81 (by decide) ?_
            exact ih _ _ _ _ _ _ _ _ _ _ _ _ _ hs hI (lv_sub hl [3, 4, 1, 2, 0] rfl) kk0
          · have hs := if_f cn hs
            refine lv_aload_n C.1 C.2.1 dX8_isEnough_62 rfl (lv_at hl 0 rfl) ?_
            refine mg_12 C hI dX8_isEnough_63 ?_
            refine lv_lload_n C.1 C.2.1 dX8_isEnough_66 rfl (lv_at hl 3 rfl) ?_
            refine W.lcmp C.1 C.2.1 dX8_isEnough_67 ?_
            refine lv_if_le (tgt := 76) C.1 C.2.1 dX8_isEnough_68 (by decide) (fun cn => ?_) (fun cn => ?_)
            · have hs := if_t cn hs
              refine lv_iconst (v := 1) C.1 C.2.1 dX8_isEnough_76 (by decide) ?_
              refine lv_istore_n (lv' := [(2, .int (1 : Int32)), (0, .ref (q 46)), (1, .int x1), (3, .long x3), (5, .int x5)]) C.1 C.2.1 dX8_isEnough_77 rfl hl (by decide) rfl (fun ls hl => ?_)
              obtain ⟨x5_78, ex5_78⟩ : ∃ y : Int32, y = (x5 + 1) := ⟨_, rfl⟩
              have hs := gv_at ex5_78 hs
              refine lv_iinc (v := x5_78) (lv' := [(5, .int x5_78), (2, .int (1 : Int32)), (0, .ref (q 46)), (1, .int x1), (3, .long x3)]) C.1 C.2.1 dX8_isEnough_78 hl (k := 4) rfl (by rw [ex5_78]; rfl) (by decide) rfl (fun ls hl => ?_)
              refine lv_goto (tgt := 11) C.1 C.2.1 dX8_isEnough_81 (by decide) ?_
              exact ih _ _ _ _ _ _ _ _ _ _ _ _ _ hs hI (lv_sub hl [2, 3, 1, 4, 0] rfl) kk0
            · have hs := if_f cn hs
              refine lv_aload_n C.1 C.2.1 dX8_isEnough_71 rfl (lv_at hl 0 rfl) ?_
              refine mg_12 C hI dX8_isEnough_72 ?_
              refine lv_topl (fun x3_75 ex3_75 => ?_)
              have hs := gv_at ex3_75 hs
              refine lv_lstore_n (lv' := [(3, .long x3_75), (0, .ref (q 46)), (1, .int x1), (2, .int x2), (5, .int x5)]) C.1 C.2.1 dX8_isEnough_75 rfl hl (by decide) rfl (fun ls hl => ?_)
              refine lv_iconst (v := 1) C.1 C.2.1 dX8_isEnough_76 (by decide) ?_
              refine lv_istore_n (lv' := [(2, .int (1 : Int32)), (3, .long x3_75), (0, .ref (q 46)), (1, .int x1), (5, .int x5)]) C.1 C.2.1 dX8_isEnough_77 rfl hl (by decide) rfl (fun ls hl => ?_)
              obtain ⟨x5_78, ex5_78⟩ : ∃ y : Int32, y = (x5 + 1) := ⟨_, rfl⟩
              have hs := gv_at ex5_78 hs
              refine lv_iinc (v := x5_78) (lv' := [(5, .int x5_78), (2, .int (1 : Int32)), (3, .long x3_75), (0, .ref (q 46)), (1, .int x1)]) C.1 C.2.1 dX8_isEnough_78 hl (k := 4) rfl (by rw [ex5_78]; rfl) (by decide) rfl (fun ls hl => ?_)
              refine lv_goto (tgt := 11) C.1 C.2.1 dX8_isEnough_81 (by decide) ?_
              exact ih _ _ _ _ _ _ _ _ _ _ _ _ _ hs hI (lv_sub hl [3, 4, 1, 2, 0] rfl) kk0
        · have hs := if_t cn hs
          refine lv_goto (tgt := 78) C.1 C.2.1 dX8_isEnough_37 (by decide) ?_
          obtain ⟨x5_78, ex5_78⟩ : ∃ y : Int32, y = (x5 + 1) := ⟨_, rfl⟩
          have hs := gv_at ex5_78 hs
          refine lv_iinc (v := x5_78) (lv' := [(5, .int x5_78), (0, .ref (q 46)), (1, .int x1), (2, .int x2), (3, .long x3)]) C.1 C.2.1 dX8_isEnough_78 hl (k := 4) rfl (by rw [ex5_78]; rfl) (by decide) rfl (fun ls hl => ?_)
          refine lv_goto (tgt := 11) C.1 C.2.1 dX8_isEnough_81 (by decide) ?_
          exact ih _ _ _ _ _ _ _ _ _ _ _ _ _ hs hI (lv_sub hl [1, 2, 3, 4, 0] rfl) kk0
  obtain ⟨⟨x2_11, x3_11, J_L, B_L⟩, hL, hs⟩ := bd_e hs
  refine KL_11 FU _ _ _ _ _ _ _ _ _ _ _ _ _ hL hI (lv_sub hl [3, 4, 2, 1, 0] rfl) (fun z0 z1 z2 z3 H locs ls eo hI hl => ?_)
  obtain ⟨rfl, rfl, rfl, rfl⟩ := pr4 eo
  refine lv_iconst (v := 0) C.1 C.2.1 dX8_isEnough_84 (by decide) ?_
  refine lv_istore (lv' := [(5, .int (0 : Int32)), (0, .ref (q 46)), (1, .int x1), (2, .int x2_11), (3, .long x3_11)]) C.1 C.2.1 dX8_isEnough_85 hl (by decide) rfl (fun ls hl => ?_)
  have KL_87 : ∀ (n : Nat) (x1 : Int32) (x2 : Int32) (x3 : Int64) (x5 : Int32) (I : Nat → Int32) (J : Nat → Int64) (A : Nat → Nat → Int32) (B : Nat → Nat → Int64) (o : ((Nat → Int64) × (Nat → Nat → Int64)) ⊕ ((Nat → Int64) × (Nat → Nat → Int64))) (Q : State → Prop) (H : Heap) (locs : List Loc) (ls : Array Slot), lX8_isEnough_87 n x1 x2 x3 x5 I J A B = some o → MI D cy s s.heap H locs q I J A B → lv_has ls 6 [(0, .ref (q 46)), (1, .int x1), (2, .int x2), (3, .long x3), (5, .int x5)] → (∀ (J_0 : Nat → Int64) (B_0 : Nat → Nat → Int64) (H : Heap) (locs : List Loc) (ls : Array Slot), o = (.inl (J_0, B_0)) → MI D cy s s.heap H locs q I J_0 A B_0 → lv_has ls 6 [] → W p l e (rmL 3) s m args below meth c H locs 0 0 Q (F0 m 146 ls [])) → (∀ (J_1 : Nat → Int64) (B_1 : Nat → Nat → Int64) (H : Heap) (locs : List Loc) (ls : Array Slot), o = (.inr (J_1, B_1)) → MI D cy s s.heap H locs q I J_1 A B_1 → lv_has ls 6 [] → W p l e (rmL 3) s m args below meth c H locs 0 0 Q (F0 m 154 ls [])) → W p l e (rmL 3) s m args below meth c H locs 0 0 Q (F0 m 87 ls []) := by
    intro n; induction n with
    | zero => intro x1 x2 x3 x5 I J A B o Q H locs ls hs; rw [lX8_isEnough_87] at hs; cases hs
    | succ n ih =>
      intro x1 x2 x3 x5 I J A B o Q H locs ls hs hI hl kk0 kk1
      rw [lX8_isEnough_87] at hs
      refine lv_iload C.1 C.2.1 dX8_isEnough_87 (lv_at hl 4 rfl) ?_
      refine lv_aload_n C.1 C.2.1 dX8_isEnough_89 rfl (lv_at hl 0 rfl) ?_
      refine mg_1 C hI dX8_isEnough_90 ?_
      refine lv_sipush (v := 1633) C.1 C.2.1 dX8_isEnough_93 (by decide) ?_
      refine ma_1 C hI (by decide) dX8_isEnough_96 ?_
      refine lv_icmp_ge (tgt := 154) C.1 C.2.1 dX8_isEnough_97 (by decide) (fun cn => ?_) (fun cn => ?_)
      · have hs := if_t cn hs
        have eo := (Option.some.inj hs).symm
        exact kk1 _ _ _ _ _ eo hI (lv_sub hl [] rfl)
      · have hs := if_f cn hs
        refine lv_aload_n C.1 C.2.1 dX8_isEnough_100 rfl (lv_at hl 0 rfl) ?_
        refine lv_iload C.1 C.2.1 dX8_isEnough_101 (lv_at hl 4 rfl) ?_
        refine lv_iconst (v := 0) C.1 C.2.1 dX8_isEnough_103 (by decide) ?_
        obtain ⟨r_104, hc, hs⟩ := bd_e hs
        refine M_call C hI (kX8_windOf l D cy q _ _ _ _ _ _ _ hc) ml_X8_109 im_X8_windOf se_X8_windOf ini_X8 co_X8_windOf hyX8_windOf rfl ⟨by decide, by decide⟩ hl.1 rfl (Nat.le_of_ble_eq_true rfl) dX8_isEnough_104 (fun H locs hI => ?_)
        refine lv_iconst (v := 2) C.1 C.2.1 dX8_isEnough_107 (by decide) ?_
        refine lv_irem C.1 C.2.1 dX8_isEnough_108 (by decide) ?_
        refine lv_if_ne (tgt := 115) C.1 C.2.1 dX8_isEnough_109 (by decide) (fun cn => ?_) (fun cn => ?_)
        · have hs := if_f cn hs
          refine lv_aload_n C.1 C.2.1 dX8_isEnough_115 rfl (lv_at hl 0 rfl) ?_
          refine lv_iload C.1 C.2.1 dX8_isEnough_116 (lv_at hl 4 rfl) ?_
          refine lv_iconst (v := 1) C.1 C.2.1 dX8_isEnough_118 (by decide) ?_
          refine lv_iload_n C.1 C.2.1 dX8_isEnough_119 rfl (lv_at hl 1 rfl) ?_
          refine lv_bipush (v := 8) C.1 C.2.1 dX8_isEnough_120 (by decide) ?_
          refine lv_idiv C.1 C.2.1 dX8_isEnough_122 (by decide) ?_
          obtain ⟨⟨r_123, J, B⟩, hc, hs⟩ := bd_e hs
          refine M_call C hI (kX8_lays l D cy q _ _ _ _ _ _ _ _ _ _ hc) ml_X8_144 im_X8_lays se_X8_lays ini_X8 co_X8_lays hyX8_lays rfl ⟨by decide, by decide⟩ hl.1 rfl (Nat.le_of_ble_eq_true rfl) dX8_isEnough_123 (fun H locs hI => ?_)
          refine lv_pop C.1 C.2.1 dX8_isEnough_126 rfl ?_
          refine lv_aload_n C.1 C.2.1 dX8_isEnough_127 rfl (lv_at hl 0 rfl) ?_
          refine lv_iload_n C.1 C.2.1 dX8_isEnough_128 rfl (lv_at hl 1 rfl) ?_
          refine lv_iconst (v := 1) C.1 C.2.1 dX8_isEnough_129 (by decide) ?_
          obtain ⟨J, hc, hs⟩ := bd_e hs
          refine M_call C hI (kX8_pulls l D cy q _ _ _ _ _ _ _ hc) ml_X8_147 im_X8_pulls se_X8_pulls ini_X8 co_X8_pulls hyX8_pulls rfl ⟨by decide, by decide⟩ hl.1 rfl (Nat.le_of_ble_eq_true rfl) dX8_isEnough_130 (fun H locs hI => ?_)
          refine lv_iload_n C.1 C.2.1 dX8_isEnough_133 rfl (lv_at hl 2 rfl) ?_
          refine lv_if_eq (tgt := 146) C.1 C.2.1 dX8_isEnough_134 (by decide) (fun cn => ?_) (fun cn => ?_)
          · have hs := if_t cn hs
            have eo := (Option.some.inj hs).symm
            exact kk0 _ _ _ _ _ eo hI (lv_sub hl [] rfl)
          · have hs := if_f cn hs
            refine lv_aload_n C.1 C.2.1 dX8_isEnough_137 rfl (lv_at hl 0 rfl) ?_
            refine mg_12 C hI dX8_isEnough_138 ?_
            refine lv_lload_n C.1 C.2.1 dX8_isEnough_141 rfl (lv_at hl 3 rfl) ?_
            refine W.lcmp C.1 C.2.1 dX8_isEnough_142 ?_
            refine lv_if_le (tgt := 148) C.1 C.2.1 dX8_isEnough_143 (by decide) (fun cn => ?_) (fun cn => ?_)
            · have hs := if_t cn hs
              obtain ⟨x5_148, ex5_148⟩ : ∃ y : Int32, y = (x5 + 1) := ⟨_, rfl⟩
              have hs := gv_at ex5_148 hs
              refine lv_iinc (v := x5_148) (lv' := [(5, .int x5_148), (0, .ref (q 46)), (1, .int x1), (2, .int x2), (3, .long x3)]) C.1 C.2.1 dX8_isEnough_148 hl (k := 4) rfl (by rw [ex5_148]; rfl) (by decide) rfl (fun ls hl => ?_)
              refine lv_goto (tgt := 87) C.1 C.2.1 dX8_isEnough_151 (by decide) ?_
              exact ih _ _ _ _ _ _ _ _ _ _ _ _ _ hs hI (lv_sub hl [1, 2, 3, 4, 0] rfl) kk0 kk1
            · have hs := if_f cn hs
              have eo := (Option.some.inj hs).symm
              exact kk0 _ _ _ _ _ eo hI (lv_sub hl [] rfl)
        · have hs := if_t cn hs
          refine lv_goto (tgt := 148) C.1 C.2.1 dX8_isEnough_112 (by decide) ?_
          obtain ⟨x5_148, ex5_148⟩ : ∃ y : Int32, y = (x5 + 1) := ⟨_, rfl⟩
          have hs := gv_at ex5_148 hs
          refine lv_iinc (v := x5_148) (lv' := [(5, .int x5_148), (0, .ref (q 46)), (1, .int x1), (2, .int x2), (3, .long x3)]) C.1 C.2.1 dX8_isEnough_148 hl (k := 4) rfl (by rw [ex5_148]; rfl) (by decide) rfl (fun ls hl => ?_)
          refine lv_goto (tgt := 87) C.1 C.2.1 dX8_isEnough_151 (by decide) ?_
          exact ih _ _ _ _ _ _ _ _ _ _ _ _ _ hs hI (lv_sub hl [1, 2, 3, 4, 0] rfl) kk0 kk1
  obtain ⟨o_87, hL, hs⟩ := bd_e hs
  refine KL_87 FU _ _ _ _ _ _ _ _ _ _ _ _ _ hL hI (lv_sub hl [1, 2, 3, 4, 0] rfl) (fun J B H locs ls eo hI hl => ?_) (fun J B H locs ls eo hI hl => ?_)
  · rw [eo] at hs
    refine lv_iconst (v := 0) C.1 C.2.1 dX8_isEnough_146 (by decide) ?_
    obtain ⟨rfl, rfl, rfl, rfl⟩ := so4 hs
    exact M_zret C hI (by decide) dX8_isEnough_147
  · rw [eo] at hs
    refine lv_iconst (v := 1) C.1 C.2.1 dX8_isEnough_154 (by decide) ?_
    obtain ⟨rfl, rfl, rfl, rfl⟩ := so4 hs
    exact M_zret C hI (by decide) dX8_isEnough_155

def sX8_goes (x1 : Int32) (x2 : Int32) (x3 : Int32) (I : Nat → Int32) (J : Nat → Int64) (A : Nat → Nat → Int32) (B : Nat → Nat → Int64) : Option ((Int32) × (Nat → Int32) × (Nat → Int64) × (Nat → Nat → Int32) × (Nat → Nat → Int64)) :=
(sX8_isWind x1 I J A B).bind fun r_2 =>
if r_2 = 0 then
(some ((-1 : Int32), I, J, A, B))
else
(sX8_in x2 (0 : Int32) (1 : Int32)).bind fun r_11 =>
if r_11 = 0 then
(some ((-1 : Int32), I, J, A, B))
else
if (-1 : Int32) ≤ x3 then
((sX8_blows x1 x2 I J A B).bind fun (I, J, A, B) =>
if x3 = (-1 : Int32) then
(some ((I 15), I, J, A, B))
else
if (I 15) ≤ x3 then
(some ((-1 : Int32), I, J, A, B))
else
ck (inB x3 48) <|
some ((A 14 (ix x3)), I, J, A, B))
else
some ((-1 : Int32), I, J, A, B)
set_option maxRecDepth 100000 in
set_option maxHeartbeats 8000000 in
theorem kX8_goes (l : Launch) (D : va_G) (cy : Nat → ClassId) (q : Nat → Nat) (x1 : Int32) (x2 : Int32) (x3 : Int32) (I : Nat → Int32) (J : Nat → Int64) (A : Nat → Nat → Int32) (B : Nat → Nat → Int64) (r : Int32) (I2 : Nat → Int32) (J2 : Nat → Int64) (A2 : Nat → Nat → Int32) (B2 : Nat → Nat → Int64) (hs : sX8_goes x1 x2 x3 I J A B = some (r, I2, J2, A2, B2)) : McI l yX8_goes cX8_goes 4 (some .int) 4 [.ref (q 46), .int x1, .int x2, .int x3] D cy q I J A B (some (.int r)) I2 J2 A2 B2 := by
  refine M_start rfl rfl (Nat.le_of_ble_eq_true rfl) ?_
  intro p e s m args below meth c H locs C hI ls hl
  have hl : lv_has ls 4 [(0, .ref (q 46)), (1, .int x1), (2, .int x2), (3, .int x3)] := hl
  rw [sX8_goes] at hs
  refine lv_aload_n C.1 C.2.1 dX8_goes_0 rfl (lv_at hl 0 rfl) ?_
  refine lv_iload_n C.1 C.2.1 dX8_goes_1 rfl (lv_at hl 1 rfl) ?_
  obtain ⟨r_2, hc, hs⟩ := bd_e hs
  refine M_call C hI (kX8_isWind l D cy q _ _ _ _ _ _ hc) ml_X8_136 im_X8_isWind se_X8_isWind ini_X8 co_X8_isWind hyX8_isWind rfl ⟨by decide, by decide⟩ hl.1 rfl (Nat.le_of_ble_eq_true rfl) dX8_goes_2 (fun H locs hI => ?_)
  refine lv_if_eq (tgt := 22) C.1 C.2.1 dX8_goes_5 (by decide) (fun cn => ?_) (fun cn => ?_)
  · have hs := if_t cn hs
    refine lv_iconst (v := -1) C.1 C.2.1 dX8_goes_22 (by decide) ?_
    obtain ⟨rfl, rfl, rfl, rfl, rfl⟩ := so5 hs
    exact M_iret C hI dX8_goes_23
  · have hs := if_f cn hs
    refine lv_iload_n C.1 C.2.1 dX8_goes_8 rfl (lv_at hl 2 rfl) ?_
    refine lv_iconst (v := 0) C.1 C.2.1 dX8_goes_9 (by decide) ?_
    refine lv_iconst (v := 1) C.1 C.2.1 dX8_goes_10 (by decide) ?_
    obtain ⟨r_11, hc, hs⟩ := bd_e hs
    refine S_call (h := 4) C (kX8_in l _ _ _ _ hc) ml_X8_83 st_X8_in ini_X8 co_X8_in hyX8_in rfl ⟨by decide, by decide⟩ hl.1 rfl (Nat.le_of_ble_eq_true rfl) dX8_goes_11 ⟨Nat.le_refl 0, Nat.le_refl 0, Nat.le_refl _, Nat.le_refl _⟩ ?_
    refine lv_if_eq (tgt := 22) C.1 C.2.1 dX8_goes_14 (by decide) (fun cn => ?_) (fun cn => ?_)
    · have hs := if_t cn hs
      refine lv_iconst (v := -1) C.1 C.2.1 dX8_goes_22 (by decide) ?_
      obtain ⟨rfl, rfl, rfl, rfl, rfl⟩ := so5 hs
      exact M_iret C hI dX8_goes_23
    · have hs := if_f cn hs
      refine lv_iload_n C.1 C.2.1 dX8_goes_17 rfl (lv_at hl 3 rfl) ?_
      refine lv_iconst (v := -1) C.1 C.2.1 dX8_goes_18 (by decide) ?_
      refine lv_icmp_ge (tgt := 24) C.1 C.2.1 dX8_goes_19 (by decide) (fun cn => ?_) (fun cn => ?_)
      · have hs := if_t cn hs
        refine lv_aload_n C.1 C.2.1 dX8_goes_24 rfl (lv_at hl 0 rfl) ?_
        refine lv_iload_n C.1 C.2.1 dX8_goes_25 rfl (lv_at hl 1 rfl) ?_
        refine lv_iload_n C.1 C.2.1 dX8_goes_26 rfl (lv_at hl 2 rfl) ?_
        obtain ⟨⟨I, J, A, B⟩, hc, hs⟩ := bd_e hs
        refine M_call C hI (kX8_blows l D cy q _ _ _ _ _ _ _ _ _ _ hc) ml_X8_161 im_X8_blows se_X8_blows ini_X8 co_X8_blows hyX8_blows rfl ⟨by decide, by decide⟩ hl.1 rfl (Nat.le_of_ble_eq_true rfl) dX8_goes_27 (fun H locs hI => ?_)
        refine lv_iload_n C.1 C.2.1 dX8_goes_30 rfl (lv_at hl 3 rfl) ?_
        refine lv_iconst (v := -1) C.1 C.2.1 dX8_goes_31 (by decide) ?_
        refine lv_icmp_ne (tgt := 42) C.1 C.2.1 dX8_goes_32 (by decide) (fun cn => ?_) (fun cn => ?_)
        · have hs := if_f cn hs
          refine lv_iload_n C.1 C.2.1 dX8_goes_42 rfl (lv_at hl 3 rfl) ?_
          refine lv_aload_n C.1 C.2.1 dX8_goes_43 rfl (lv_at hl 0 rfl) ?_
          refine mg_15 C hI dX8_goes_44 ?_
          refine lv_icmp_ge (tgt := 59) C.1 C.2.1 dX8_goes_47 (by decide) (fun cn => ?_) (fun cn => ?_)
          · have hs := if_t cn hs
            refine lv_iconst (v := -1) C.1 C.2.1 dX8_goes_59 (by decide) ?_
            obtain ⟨rfl, rfl, rfl, rfl, rfl⟩ := so5 hs
            exact M_iret C hI dX8_goes_60
          · have hs := if_f cn hs
            refine lv_aload_n C.1 C.2.1 dX8_goes_50 rfl (lv_at hl 0 rfl) ?_
            refine mg_14 C hI dX8_goes_51 ?_
            refine lv_iload_n C.1 C.2.1 dX8_goes_54 rfl (lv_at hl 3 rfl) ?_
            obtain ⟨hk, hs⟩ := ck_e hs
            refine ma_14 C hI hk dX8_goes_55 ?_
            refine lv_goto (tgt := 60) C.1 C.2.1 dX8_goes_56 (by decide) ?_
            obtain ⟨rfl, rfl, rfl, rfl, rfl⟩ := so5 hs
            exact M_iret C hI dX8_goes_60
        · have hs := if_t cn hs
          refine lv_aload_n C.1 C.2.1 dX8_goes_35 rfl (lv_at hl 0 rfl) ?_
          refine mg_15 C hI dX8_goes_36 ?_
          refine lv_goto (tgt := 60) C.1 C.2.1 dX8_goes_39 (by decide) ?_
          obtain ⟨rfl, rfl, rfl, rfl, rfl⟩ := so5 hs
          exact M_iret C hI dX8_goes_60
      · have hs := if_f cn hs
        refine lv_iconst (v := -1) C.1 C.2.1 dX8_goes_22 (by decide) ?_
        obtain ⟨rfl, rfl, rfl, rfl, rfl⟩ := so5 hs
        exact M_iret C hI dX8_goes_23

def sX8_falls (x1 : Int32) (x2 : Int32) (I : Nat → Int32) (J : Nat → Int64) (A : Nat → Nat → Int32) (B : Nat → Nat → Int64) : Option ((Int32) × (Nat → Int32) × (Nat → Int64) × (Nat → Nat → Int32) × (Nat → Nat → Int64)) :=
(sX8_isWind x1 I J A B).bind fun r_2 =>
if r_2 = 0 then
(some ((-1 : Int32), I, J, A, B))
else
(sX8_in x2 (0 : Int32) (1 : Int32)).bind fun r_11 =>
if r_11 = 0 then
(some ((-1 : Int32), I, J, A, B))
else
(sX8_blows x1 x2 I J A B).bind fun (I, J, A, B) =>
some ((I 16), I, J, A, B)
set_option maxRecDepth 100000 in
set_option maxHeartbeats 8000000 in
theorem kX8_falls (l : Launch) (D : va_G) (cy : Nat → ClassId) (q : Nat → Nat) (x1 : Int32) (x2 : Int32) (I : Nat → Int32) (J : Nat → Int64) (A : Nat → Nat → Int32) (B : Nat → Nat → Int64) (r : Int32) (I2 : Nat → Int32) (J2 : Nat → Int64) (A2 : Nat → Nat → Int32) (B2 : Nat → Nat → Int64) (hs : sX8_falls x1 x2 I J A B = some (r, I2, J2, A2, B2)) : McI l yX8_falls cX8_falls 3 (some .int) 4 [.ref (q 46), .int x1, .int x2] D cy q I J A B (some (.int r)) I2 J2 A2 B2 := by
  refine M_start rfl rfl (Nat.le_of_ble_eq_true rfl) ?_
  intro p e s m args below meth c H locs C hI ls hl
  have hl : lv_has ls 3 [(0, .ref (q 46)), (1, .int x1), (2, .int x2)] := hl
  rw [sX8_falls] at hs
  refine lv_aload_n C.1 C.2.1 dX8_falls_0 rfl (lv_at hl 0 rfl) ?_
  refine lv_iload_n C.1 C.2.1 dX8_falls_1 rfl (lv_at hl 1 rfl) ?_
  obtain ⟨r_2, hc, hs⟩ := bd_e hs
  refine M_call C hI (kX8_isWind l D cy q _ _ _ _ _ _ hc) ml_X8_136 im_X8_isWind se_X8_isWind ini_X8 co_X8_isWind hyX8_isWind rfl ⟨by decide, by decide⟩ hl.1 rfl (Nat.le_of_ble_eq_true rfl) dX8_falls_2 (fun H locs hI => ?_)
  refine lv_if_eq (tgt := 17) C.1 C.2.1 dX8_falls_5 (by decide) (fun cn => ?_) (fun cn => ?_)
  · have hs := if_t cn hs
    refine lv_iconst (v := -1) C.1 C.2.1 dX8_falls_17 (by decide) ?_
    obtain ⟨rfl, rfl, rfl, rfl, rfl⟩ := so5 hs
    exact M_iret C hI dX8_falls_18
  · have hs := if_f cn hs
    refine lv_iload_n C.1 C.2.1 dX8_falls_8 rfl (lv_at hl 2 rfl) ?_
    refine lv_iconst (v := 0) C.1 C.2.1 dX8_falls_9 (by decide) ?_
    refine lv_iconst (v := 1) C.1 C.2.1 dX8_falls_10 (by decide) ?_
    obtain ⟨r_11, hc, hs⟩ := bd_e hs
    refine S_call (h := 4) C (kX8_in l _ _ _ _ hc) ml_X8_83 st_X8_in ini_X8 co_X8_in hyX8_in rfl ⟨by decide, by decide⟩ hl.1 rfl (Nat.le_of_ble_eq_true rfl) dX8_falls_11 ⟨Nat.le_refl 0, Nat.le_refl 0, Nat.le_refl _, Nat.le_refl _⟩ ?_
    refine lv_if_ne (tgt := 19) C.1 C.2.1 dX8_falls_14 (by decide) (fun cn => ?_) (fun cn => ?_)
    · have hs := if_f cn hs
      refine lv_aload_n C.1 C.2.1 dX8_falls_19 rfl (lv_at hl 0 rfl) ?_
      refine lv_iload_n C.1 C.2.1 dX8_falls_20 rfl (lv_at hl 1 rfl) ?_
      refine lv_iload_n C.1 C.2.1 dX8_falls_21 rfl (lv_at hl 2 rfl) ?_
      obtain ⟨⟨I, J, A, B⟩, hc, hs⟩ := bd_e hs
      refine M_call C hI (kX8_blows l D cy q _ _ _ _ _ _ _ _ _ _ hc) ml_X8_161 im_X8_blows se_X8_blows ini_X8 co_X8_blows hyX8_blows rfl ⟨by decide, by decide⟩ hl.1 rfl (Nat.le_of_ble_eq_true rfl) dX8_falls_22 (fun H locs hI => ?_)
      refine lv_aload_n C.1 C.2.1 dX8_falls_25 rfl (lv_at hl 0 rfl) ?_
      refine mg_16 C hI dX8_falls_26 ?_
      obtain ⟨rfl, rfl, rfl, rfl, rfl⟩ := so5 hs
      exact M_iret C hI dX8_falls_29
    · have hs := if_t cn hs
      refine lv_iconst (v := -1) C.1 C.2.1 dX8_falls_17 (by decide) ?_
      obtain ⟨rfl, rfl, rfl, rfl, rfl⟩ := so5 hs
      exact M_iret C hI dX8_falls_18

def lX8_fallsBy_4 : Nat → Int32 → Int32 → Int32 → (Nat → Int32) → (Nat → Int64) → (Nat → Nat → Int32) → (Nat → Nat → Int64) → Option (Int32 × (Nat → Int32) × (Nat → Int64) × (Nat → Nat → Int32) × (Nat → Nat → Int64))
  | 0, _, _, _, _, _, _, _ => none
  | n + 1, x1, x2, x3, I, J, A, B =>
    if (A 1 (ix (1633 : Int32))) ≤ x3 then
    (some (x2, I, J, A, B))
    else
    (sX8_blows x3 x1 I J A B).bind fun (I, J, A, B) =>
    if (I 16) = (-1 : Int32) then
    (gv (x3 + 1) fun x3_36 =>
    lX8_fallsBy_4 n x1 x2 x3_36 I J A B)
    else
    gv (x2 ||| ((1 : Int32) <<< (x3 &&& 31))) fun x2_35 =>
    gv (x3 + 1) fun x3_36 =>
    lX8_fallsBy_4 n x1 x2_35 x3_36 I J A B
def sX8_fallsBy (x1 : Int32) (I : Nat → Int32) (J : Nat → Int64) (A : Nat → Nat → Int32) (B : Nat → Nat → Int64) : Option ((Int32) × (Nat → Int32) × (Nat → Int64) × (Nat → Nat → Int32) × (Nat → Nat → Int64)) :=
(lX8_fallsBy_4 FU x1 (0 : Int32) (0 : Int32) I J A B).bind fun (x2_4, I, J, A, B) =>
some (x2_4, I, J, A, B)
set_option maxRecDepth 100000 in
set_option maxHeartbeats 8000000 in
theorem kX8_fallsBy (l : Launch) (D : va_G) (cy : Nat → ClassId) (q : Nat → Nat) (x1 : Int32) (I : Nat → Int32) (J : Nat → Int64) (A : Nat → Nat → Int32) (B : Nat → Nat → Int64) (r : Int32) (I2 : Nat → Int32) (J2 : Nat → Int64) (A2 : Nat → Nat → Int32) (B2 : Nat → Nat → Int64) (hs : sX8_fallsBy x1 I J A B = some (r, I2, J2, A2, B2)) : McI l yX8_fallsBy cX8_fallsBy 4 (some .int) 4 [.ref (q 46), .int x1] D cy q I J A B (some (.int r)) I2 J2 A2 B2 := by
  refine M_start rfl rfl (Nat.le_of_ble_eq_true rfl) ?_
  intro p e s m args below meth c H locs C hI ls hl
  have hl : lv_has ls 4 [(0, .ref (q 46)), (1, .int x1)] := hl
  rw [sX8_fallsBy] at hs
  refine lv_iconst (v := 0) C.1 C.2.1 dX8_fallsBy_0 (by decide) ?_
  refine lv_istore_n (lv' := [(2, .int (0 : Int32)), (0, .ref (q 46)), (1, .int x1)]) C.1 C.2.1 dX8_fallsBy_1 rfl hl (by decide) rfl (fun ls hl => ?_)
  refine lv_iconst (v := 0) C.1 C.2.1 dX8_fallsBy_2 (by decide) ?_
  refine lv_istore_n (lv' := [(3, .int (0 : Int32)), (2, .int (0 : Int32)), (0, .ref (q 46)), (1, .int x1)]) C.1 C.2.1 dX8_fallsBy_3 rfl hl (by decide) rfl (fun ls hl => ?_)
  have KL_4 : ∀ (n : Nat) (x1 : Int32) (x2 : Int32) (x3 : Int32) (I : Nat → Int32) (J : Nat → Int64) (A : Nat → Nat → Int32) (B : Nat → Nat → Int64) (o : Int32 × (Nat → Int32) × (Nat → Int64) × (Nat → Nat → Int32) × (Nat → Nat → Int64)) (Q : State → Prop) (H : Heap) (locs : List Loc) (ls : Array Slot), lX8_fallsBy_4 n x1 x2 x3 I J A B = some o → MI D cy s s.heap H locs q I J A B → lv_has ls 4 [(0, .ref (q 46)), (1, .int x1), (2, .int x2), (3, .int x3)] → (∀ (o2_0 : Int32) (I_0 : Nat → Int32) (J_0 : Nat → Int64) (A_0 : Nat → Nat → Int32) (B_0 : Nat → Nat → Int64) (H : Heap) (locs : List Loc) (ls : Array Slot), o = (o2_0, I_0, J_0, A_0, B_0) → MI D cy s s.heap H locs q I_0 J_0 A_0 B_0 → lv_has ls 4 [(2, .int o2_0)] → W p l e (rmL 4) s m args below meth c H locs 0 0 Q (F0 m 42 ls [])) → W p l e (rmL 4) s m args below meth c H locs 0 0 Q (F0 m 4 ls []) := by
    intro n; induction n with
    | zero => intro x1 x2 x3 I J A B o Q H locs ls hs; rw [lX8_fallsBy_4] at hs; cases hs
    | succ n ih =>
      intro x1 x2 x3 I J A B o Q H locs ls hs hI hl kk0
      rw [lX8_fallsBy_4] at hs
      refine lv_iload_n C.1 C.2.1 dX8_fallsBy_4 rfl (lv_at hl 3 rfl) ?_
      refine lv_aload_n C.1 C.2.1 dX8_fallsBy_5 rfl (lv_at hl 0 rfl) ?_
      refine mg_1 C hI dX8_fallsBy_6 ?_
      refine lv_sipush (v := 1633) C.1 C.2.1 dX8_fallsBy_9 (by decide) ?_
      refine ma_1 C hI (by decide) dX8_fallsBy_12 ?_
      refine lv_icmp_ge (tgt := 42) C.1 C.2.1 dX8_fallsBy_13 (by decide) (fun cn => ?_) (fun cn => ?_)
      · have hs := if_t cn hs
        have eo := (Option.some.inj hs).symm
        exact kk0 _ _ _ _ _ _ _ _ eo hI (lv_sub hl [2] rfl)
      · have hs := if_f cn hs
        refine lv_aload_n C.1 C.2.1 dX8_fallsBy_16 rfl (lv_at hl 0 rfl) ?_
        refine lv_iload_n C.1 C.2.1 dX8_fallsBy_17 rfl (lv_at hl 3 rfl) ?_
        refine lv_iload_n C.1 C.2.1 dX8_fallsBy_18 rfl (lv_at hl 1 rfl) ?_
        obtain ⟨⟨I, J, A, B⟩, hc, hs⟩ := bd_e hs
        refine M_call C hI (kX8_blows l D cy q _ _ _ _ _ _ _ _ _ _ hc) ml_X8_161 im_X8_blows se_X8_blows ini_X8 co_X8_blows hyX8_blows rfl ⟨by decide, by decide⟩ hl.1 rfl (Nat.le_of_ble_eq_true rfl) dX8_fallsBy_19 (fun H locs hI => ?_)
        refine lv_aload_n C.1 C.2.1 dX8_fallsBy_22 rfl (lv_at hl 0 rfl) ?_
        refine mg_16 C hI dX8_fallsBy_23 ?_
        refine lv_iconst (v := -1) C.1 C.2.1 dX8_fallsBy_26 (by decide) ?_
        refine lv_icmp_eq (tgt := 36) C.1 C.2.1 dX8_fallsBy_27 (by decide) (fun cn => ?_) (fun cn => ?_)
        · have hs := if_t cn hs
          obtain ⟨x3_36, ex3_36⟩ : ∃ y : Int32, y = (x3 + 1) := ⟨_, rfl⟩
          have hs := gv_at ex3_36 hs
          refine lv_iinc (v := x3_36) (lv' := [(3, .int x3_36), (0, .ref (q 46)), (1, .int x1), (2, .int x2)]) C.1 C.2.1 dX8_fallsBy_36 hl (k := 3) rfl (by rw [ex3_36]; rfl) (by decide) rfl (fun ls hl => ?_)
          refine lv_goto (tgt := 4) C.1 C.2.1 dX8_fallsBy_39 (by decide) ?_
          exact ih _ _ _ _ _ _ _ _ _ _ _ _ hs hI (lv_sub hl [1, 2, 3, 0] rfl) kk0
        · have hs := if_f cn hs
          refine lv_iload_n C.1 C.2.1 dX8_fallsBy_30 rfl (lv_at hl 2 rfl) ?_
          refine lv_iconst (v := 1) C.1 C.2.1 dX8_fallsBy_31 (by decide) ?_
          refine lv_iload_n C.1 C.2.1 dX8_fallsBy_32 rfl (lv_at hl 3 rfl) ?_
          refine lv_ishl C.1 C.2.1 dX8_fallsBy_33 ?_
          refine lv_ior C.1 C.2.1 dX8_fallsBy_34 ?_
          refine lv_topi (fun x2_35 ex2_35 => ?_)
          have hs := gv_at ex2_35 hs
          refine lv_istore_n (lv' := [(2, .int x2_35), (0, .ref (q 46)), (1, .int x1), (3, .int x3)]) C.1 C.2.1 dX8_fallsBy_35 rfl hl (by decide) rfl (fun ls hl => ?_)
          obtain ⟨x3_36, ex3_36⟩ : ∃ y : Int32, y = (x3 + 1) := ⟨_, rfl⟩
          have hs := gv_at ex3_36 hs
          refine lv_iinc (v := x3_36) (lv' := [(3, .int x3_36), (2, .int x2_35), (0, .ref (q 46)), (1, .int x1)]) C.1 C.2.1 dX8_fallsBy_36 hl (k := 3) rfl (by rw [ex3_36]; rfl) (by decide) rfl (fun ls hl => ?_)
          refine lv_goto (tgt := 4) C.1 C.2.1 dX8_fallsBy_39 (by decide) ?_
          exact ih _ _ _ _ _ _ _ _ _ _ _ _ hs hI (lv_sub hl [2, 3, 1, 0] rfl) kk0
  obtain ⟨⟨x2_4, I_L, J_L, A_L, B_L⟩, hL, hs⟩ := bd_e hs
  refine KL_4 FU _ _ _ _ _ _ _ _ _ _ _ _ hL hI (lv_sub hl [2, 3, 1, 0] rfl) (fun z0 z1 z2 z3 z4 H locs ls eo hI hl => ?_)
  obtain ⟨rfl, rfl, rfl, rfl, rfl⟩ := pr5 eo
  refine lv_iload_n C.1 C.2.1 dX8_fallsBy_42 rfl (lv_at hl 0 rfl) ?_
  obtain ⟨rfl, rfl, rfl, rfl, rfl⟩ := so5 hs
  exact M_iret C hI dX8_fallsBy_43

def sX8_enough (x1 : Int32) (I : Nat → Int32) (J : Nat → Int64) (A : Nat → Nat → Int32) (B : Nat → Nat → Int64) : Option ((Int32) × (Nat → Int64) × (Nat → Nat → Int32) × (Nat → Nat → Int64)) :=
(sX8_isJoint x1).bind fun r_1 =>
if r_1 = 0 then
(some ((-1 : Int32), J, A, B))
else
(sX8_isEnough x1 I J A B).bind fun (r_9, J, A, B) =>
if r_9 = 0 then
(some ((0 : Int32), J, A, B))
else
some ((1 : Int32), J, A, B)
set_option maxRecDepth 100000 in
set_option maxHeartbeats 8000000 in
theorem kX8_enough (l : Launch) (D : va_G) (cy : Nat → ClassId) (q : Nat → Nat) (x1 : Int32) (I : Nat → Int32) (J : Nat → Int64) (A : Nat → Nat → Int32) (B : Nat → Nat → Int64) (r : Int32) (J2 : Nat → Int64) (A2 : Nat → Nat → Int32) (B2 : Nat → Nat → Int64) (hs : sX8_enough x1 I J A B = some (r, J2, A2, B2)) : McI l yX8_enough cX8_enough 2 (some .int) 4 [.ref (q 46), .int x1] D cy q I J A B (some (.int r)) I J2 A2 B2 := by
  refine M_start rfl rfl (Nat.le_of_ble_eq_true rfl) ?_
  intro p e s m args below meth c H locs C hI ls hl
  have hl : lv_has ls 2 [(0, .ref (q 46)), (1, .int x1)] := hl
  rw [sX8_enough] at hs
  refine lv_iload_n C.1 C.2.1 dX8_enough_0 rfl (lv_at hl 1 rfl) ?_
  obtain ⟨r_1, hc, hs⟩ := bd_e hs
  refine S_call (h := 4) C (kX8_isJoint l _ _ hc) ml_X8_94 st_X8_isJoint ini_X8 co_X8_isJoint hyX8_isJoint rfl ⟨by decide, by decide⟩ hl.1 rfl (Nat.le_of_ble_eq_true rfl) dX8_enough_1 ⟨Nat.le_refl 0, Nat.le_refl 0, Nat.le_refl _, Nat.le_refl _⟩ ?_
  refine lv_if_eq (tgt := 23) C.1 C.2.1 dX8_enough_4 (by decide) (fun cn => ?_) (fun cn => ?_)
  · have hs := if_t cn hs
    refine lv_iconst (v := -1) C.1 C.2.1 dX8_enough_23 (by decide) ?_
    obtain ⟨rfl, rfl, rfl, rfl⟩ := so4 hs
    exact M_iret C hI dX8_enough_24
  · have hs := if_f cn hs
    refine lv_aload_n C.1 C.2.1 dX8_enough_7 rfl (lv_at hl 0 rfl) ?_
    refine lv_iload_n C.1 C.2.1 dX8_enough_8 rfl (lv_at hl 1 rfl) ?_
    obtain ⟨⟨r_9, J, A, B⟩, hc, hs⟩ := bd_e hs
    refine M_call C hI (kX8_isEnough l D cy q _ _ _ _ _ _ _ _ _ hc) ml_X8_356 im_X8_isEnough se_X8_isEnough ini_X8 co_X8_isEnough hyX8_isEnough rfl ⟨by decide, by decide⟩ hl.1 rfl (Nat.le_of_ble_eq_true rfl) dX8_enough_9 (fun H locs hI => ?_)
    refine lv_if_eq (tgt := 19) C.1 C.2.1 dX8_enough_12 (by decide) (fun cn => ?_) (fun cn => ?_)
    · have hs := if_t cn hs
      refine lv_iconst (v := 0) C.1 C.2.1 dX8_enough_19 (by decide) ?_
      refine lv_goto (tgt := 24) C.1 C.2.1 dX8_enough_20 (by decide) ?_
      obtain ⟨rfl, rfl, rfl, rfl⟩ := so4 hs
      exact M_iret C hI dX8_enough_24
    · have hs := if_f cn hs
      refine lv_iconst (v := 1) C.1 C.2.1 dX8_enough_15 (by decide) ?_
      refine lv_goto (tgt := 24) C.1 C.2.1 dX8_enough_16 (by decide) ?_
      obtain ⟨rfl, rfl, rfl, rfl⟩ := so4 hs
      exact M_iret C hI dX8_enough_24

def lX8_move_36 : Nat → Int32 → Int32 → Int32 → Int32 → Int32 → (Nat → Int32) → (Nat → Int64) → (Nat → Nat → Int32) → (Nat → Nat → Int64) → Option (Int32 × (Nat → Int64) × (Nat → Nat → Int32) × (Nat → Nat → Int64))
  | 0, _, _, _, _, _, _, _, _, _ => none
  | n + 1, x1, x2, x3, x4, x5, I, J, A, B =>
    if (48 : Int32) ≤ x5 then
    (some (x4, J, A, B))
    else
    if x4 = 0 then
    (some (x4, J, A, B))
    else
    (sX8_isEnough x5 I J A B).bind fun (r_51, J, A, B) =>
    gv (x5 + 1) fun x5_56 =>
    lX8_move_36 n x1 x2 x3 r_51 x5_56 I J A B
def lX8_move_10 : Nat → Int32 → Int32 → Int32 → (Nat → Int32) → (Nat → Int64) → (Nat → Nat → Int32) → (Nat → Nat → Int64) → Option (Int32 × (Nat → Int64) × (Nat → Nat → Int32) × (Nat → Nat → Int64))
  | 0, _, _, _, _, _, _, _ => none
  | n + 1, x1, x2, x3, I, J, A, B =>
    if (10 : Int32) < x3 then
    (some (x2, J, A, B))
    else
    if x2 = (-1 : Int32) then
    (gv (va_up A 1 (upd (A 1) (ix (159 : Int32)) x3)) fun A =>
    (lX8_move_36 FU x1 x2 x3 (1 : Int32) (0 : Int32) I J A B).bind fun (x4_36, J, A, B) =>
    if x4_36 = 0 then
    (gv (x3 + 1) fun x3_69 =>
    lX8_move_10 n x1 x2 x3_69 I J A B)
    else
    gv (x3 + 1) fun x3_69 =>
    lX8_move_10 n x1 x3 x3_69 I J A B)
    else
    some (x2, J, A, B)
def sX8_move (I : Nat → Int32) (J : Nat → Int64) (A : Nat → Nat → Int32) (B : Nat → Nat → Int64) : Option ((Int32) × (Nat → Int64) × (Nat → Nat → Int32) × (Nat → Nat → Int64)) :=
(sX8_term (3 : Int32) I J A B).bind fun r_2 =>
(lX8_move_10 FU r_2 (-1 : Int32) r_2 I J A B).bind fun (x2_10, J, A, B) =>
gv (va_up A 1 (upd (A 1) (ix (159 : Int32)) r_2)) fun A =>
some (x2_10, J, A, B)
set_option maxRecDepth 100000 in
set_option maxHeartbeats 8000000 in
theorem kX8_move (l : Launch) (D : va_G) (cy : Nat → ClassId) (q : Nat → Nat) (I : Nat → Int32) (J : Nat → Int64) (A : Nat → Nat → Int32) (B : Nat → Nat → Int64) (r : Int32) (J2 : Nat → Int64) (A2 : Nat → Nat → Int32) (B2 : Nat → Nat → Int64) (hs : sX8_move I J A B = some (r, J2, A2, B2)) : McI l yX8_move cX8_move 6 (some .int) 4 [.ref (q 46)] D cy q I J A B (some (.int r)) I J2 A2 B2 := by
  refine M_start rfl rfl (Nat.le_of_ble_eq_true rfl) ?_
  intro p e s m args below meth c H locs C hI ls hl
  have hl : lv_has ls 6 [(0, .ref (q 46))] := hl
  rw [sX8_move] at hs
  refine lv_aload_n C.1 C.2.1 dX8_move_0 rfl (lv_at hl 0 rfl) ?_
  refine lv_iconst (v := 3) C.1 C.2.1 dX8_move_1 (by decide) ?_
  obtain ⟨r_2, hc, hs⟩ := bd_e hs
  refine M_call C hI (kX8_term l D cy q _ _ _ _ _ _ hc) ml_X8_99 im_X8_term se_X8_term ini_X8 co_X8_term hyX8_term rfl ⟨by decide, by decide⟩ hl.1 rfl (Nat.le_of_ble_eq_true rfl) dX8_move_2 (fun H locs hI => ?_)
  refine lv_istore_n (lv' := [(1, .int r_2), (0, .ref (q 46))]) C.1 C.2.1 dX8_move_5 rfl hl (by decide) rfl (fun ls hl => ?_)
  refine lv_iconst (v := -1) C.1 C.2.1 dX8_move_6 (by decide) ?_
  refine lv_istore_n (lv' := [(2, .int (-1 : Int32)), (1, .int r_2), (0, .ref (q 46))]) C.1 C.2.1 dX8_move_7 rfl hl (by decide) rfl (fun ls hl => ?_)
  refine lv_iload_n C.1 C.2.1 dX8_move_8 rfl (lv_at hl 1 rfl) ?_
  refine lv_istore_n (lv' := [(3, .int r_2), (2, .int (-1 : Int32)), (1, .int r_2), (0, .ref (q 46))]) C.1 C.2.1 dX8_move_9 rfl hl (by decide) rfl (fun ls hl => ?_)
  have KL_10 : ∀ (n : Nat) (x1 : Int32) (x2 : Int32) (x3 : Int32) (I : Nat → Int32) (J : Nat → Int64) (A : Nat → Nat → Int32) (B : Nat → Nat → Int64) (o : Int32 × (Nat → Int64) × (Nat → Nat → Int32) × (Nat → Nat → Int64)) (Q : State → Prop) (H : Heap) (locs : List Loc) (ls : Array Slot), lX8_move_10 n x1 x2 x3 I J A B = some o → MI D cy s s.heap H locs q I J A B → lv_has ls 6 [(0, .ref (q 46)), (1, .int x1), (2, .int x2), (3, .int x3)] → (∀ (o2_0 : Int32) (J_0 : Nat → Int64) (A_0 : Nat → Nat → Int32) (B_0 : Nat → Nat → Int64) (H : Heap) (locs : List Loc) (ls : Array Slot), o = (o2_0, J_0, A_0, B_0) → MI D cy s s.heap H locs q I J_0 A_0 B_0 → lv_has ls 6 [(0, .ref (q 46)), (1, .int x1), (2, .int o2_0)] → W p l e (rmL 4) s m args below meth c H locs 0 0 Q (F0 m 75 ls [])) → W p l e (rmL 4) s m args below meth c H locs 0 0 Q (F0 m 10 ls []) := by
    intro n; induction n with
    | zero => intro x1 x2 x3 I J A B o Q H locs ls hs; rw [lX8_move_10] at hs; cases hs
    | succ n ih =>
      intro x1 x2 x3 I J A B o Q H locs ls hs hI hl kk0
      rw [lX8_move_10] at hs
      refine lv_iload_n C.1 C.2.1 dX8_move_10 rfl (lv_at hl 3 rfl) ?_
      refine lv_bipush (v := 10) C.1 C.2.1 dX8_move_11 (by decide) ?_
      refine lv_icmp_gt (tgt := 75) C.1 C.2.1 dX8_move_13 (by decide) (fun cn => ?_) (fun cn => ?_)
      · have hs := if_t cn hs
        have eo := (Option.some.inj hs).symm
        exact kk0 _ _ _ _ _ _ _ eo hI (lv_sub hl [0, 1, 2] rfl)
      · have hs := if_f cn hs
        refine lv_iload_n C.1 C.2.1 dX8_move_16 rfl (lv_at hl 2 rfl) ?_
        refine lv_iconst (v := -1) C.1 C.2.1 dX8_move_17 (by decide) ?_
        refine lv_icmp_ne (tgt := 75) C.1 C.2.1 dX8_move_18 (by decide) (fun cn => ?_) (fun cn => ?_)
        · have hs := if_f cn hs
          have eo := (Option.some.inj hs).symm
          exact kk0 _ _ _ _ _ _ _ eo hI (lv_sub hl [0, 1, 2] rfl)
        · have hs := if_t cn hs
          refine lv_aload_n C.1 C.2.1 dX8_move_21 rfl (lv_at hl 0 rfl) ?_
          refine mg_1 C hI dX8_move_22 ?_
          refine lv_sipush (v := 159) C.1 C.2.1 dX8_move_25 (by decide) ?_
          refine lv_iload_n C.1 C.2.1 dX8_move_28 rfl (lv_at hl 3 rfl) ?_
          refine ms_1 C hI (by decide) dX8_move_29 (fun H locs hI => ?_)
          have hs := gv_be hs
          refine lv_iconst (v := 1) C.1 C.2.1 dX8_move_30 (by decide) ?_
          refine lv_istore (lv' := [(4, .int (1 : Int32)), (0, .ref (q 46)), (1, .int x1), (2, .int x2), (3, .int x3)]) C.1 C.2.1 dX8_move_31 hl (by decide) rfl (fun ls hl => ?_)
          refine lv_iconst (v := 0) C.1 C.2.1 dX8_move_33 (by decide) ?_
          refine lv_istore (lv' := [(5, .int (0 : Int32)), (4, .int (1 : Int32)), (0, .ref (q 46)), (1, .int x1), (2, .int x2), (3, .int x3)]) C.1 C.2.1 dX8_move_34 hl (by decide) rfl (fun ls hl => ?_)
          have KL_36 : ∀ (n : Nat) (x1 : Int32) (x2 : Int32) (x3 : Int32) (x4 : Int32) (x5 : Int32) (I : Nat → Int32) (J : Nat → Int64) (A : Nat → Nat → Int32) (B : Nat → Nat → Int64) (o : Int32 × (Nat → Int64) × (Nat → Nat → Int32) × (Nat → Nat → Int64)) (Q : State → Prop) (H : Heap) (locs : List Loc) (ls : Array Slot), lX8_move_36 n x1 x2 x3 x4 x5 I J A B = some o → MI D cy s s.heap H locs q I J A B → lv_has ls 6 [(0, .ref (q 46)), (1, .int x1), (2, .int x2), (3, .int x3), (4, .int x4), (5, .int x5)] → (∀ (o4_0 : Int32) (J_0 : Nat → Int64) (A_0 : Nat → Nat → Int32) (B_0 : Nat → Nat → Int64) (H : Heap) (locs : List Loc) (ls : Array Slot), o = (o4_0, J_0, A_0, B_0) → MI D cy s s.heap H locs q I J_0 A_0 B_0 → lv_has ls 6 [(0, .ref (q 46)), (1, .int x1), (2, .int x2), (3, .int x3), (4, .int o4_0)] → W p l e (rmL 4) s m args below meth c H locs 0 0 Q (F0 m 62 ls [])) → W p l e (rmL 4) s m args below meth c H locs 0 0 Q (F0 m 36 ls []) := by
            intro n; induction n with
            | zero => intro x1 x2 x3 x4 x5 I J A B o Q H locs ls hs; rw [lX8_move_36] at hs; cases hs
            | succ n ih =>
              intro x1 x2 x3 x4 x5 I J A B o Q H locs ls hs hI hl kk0
              rw [lX8_move_36] at hs
              refine lv_iload C.1 C.2.1 dX8_move_36 (lv_at hl 5 rfl) ?_
              refine lv_bipush (v := 48) C.1 C.2.1 dX8_move_38 (by decide) ?_
              refine lv_icmp_ge (tgt := 62) C.1 C.2.1 dX8_move_40 (by decide) (fun cn => ?_) (fun cn => ?_)
              · have hs := if_t cn hs
                have eo := (Option.some.inj hs).symm
                exact kk0 _ _ _ _ _ _ _ eo hI (lv_sub hl [0, 1, 2, 3, 4] rfl)
              · have hs := if_f cn hs
                refine lv_iload C.1 C.2.1 dX8_move_43 (lv_at hl 4 rfl) ?_
                refine lv_if_eq (tgt := 62) C.1 C.2.1 dX8_move_45 (by decide) (fun cn => ?_) (fun cn => ?_)
                · have hs := if_t cn hs
                  have eo := (Option.some.inj hs).symm
                  exact kk0 _ _ _ _ _ _ _ eo hI (lv_sub hl [0, 1, 2, 3, 4] rfl)
                · have hs := if_f cn hs
                  refine lv_aload_n C.1 C.2.1 dX8_move_48 rfl (lv_at hl 0 rfl) ?_
                  refine lv_iload C.1 C.2.1 dX8_move_49 (lv_at hl 5 rfl) ?_
                  obtain ⟨⟨r_51, J, A, B⟩, hc, hs⟩ := bd_e hs
                  refine M_call C hI (kX8_isEnough l D cy q _ _ _ _ _ _ _ _ _ hc) ml_X8_356 im_X8_isEnough se_X8_isEnough ini_X8 co_X8_isEnough hyX8_isEnough rfl ⟨by decide, by decide⟩ hl.1 rfl (Nat.le_of_ble_eq_true rfl) dX8_move_51 (fun H locs hI => ?_)
                  refine lv_istore (lv' := [(4, .int r_51), (0, .ref (q 46)), (1, .int x1), (2, .int x2), (3, .int x3), (5, .int x5)]) C.1 C.2.1 dX8_move_54 hl (by decide) rfl (fun ls hl => ?_)
                  obtain ⟨x5_56, ex5_56⟩ : ∃ y : Int32, y = (x5 + 1) := ⟨_, rfl⟩
                  have hs := gv_at ex5_56 hs
                  refine lv_iinc (v := x5_56) (lv' := [(5, .int x5_56), (4, .int r_51), (0, .ref (q 46)), (1, .int x1), (2, .int x2), (3, .int x3)]) C.1 C.2.1 dX8_move_56 hl (k := 5) rfl (by rw [ex5_56]; rfl) (by decide) rfl (fun ls hl => ?_)
                  refine lv_goto (tgt := 36) C.1 C.2.1 dX8_move_59 (by decide) ?_
                  exact ih _ _ _ _ _ _ _ _ _ _ _ _ _ _ hs hI (lv_sub hl [2, 3, 4, 5, 1, 0] rfl) kk0
          obtain ⟨⟨x4_36, J_L, A_L, B_L⟩, hL, hs⟩ := bd_e hs
          refine KL_36 FU _ _ _ _ _ _ _ _ _ _ _ _ _ _ hL hI (lv_sub hl [2, 3, 4, 5, 1, 0] rfl) (fun z0 z1 z2 z3 H locs ls eo hI hl => ?_)
          obtain ⟨rfl, rfl, rfl, rfl⟩ := pr4 eo
          refine lv_iload C.1 C.2.1 dX8_move_62 (lv_at hl 4 rfl) ?_
          refine lv_if_eq (tgt := 69) C.1 C.2.1 dX8_move_64 (by decide) (fun cn => ?_) (fun cn => ?_)
          · have hs := if_t cn hs
            obtain ⟨x3_69, ex3_69⟩ : ∃ y : Int32, y = (x3 + 1) := ⟨_, rfl⟩
            have hs := gv_at ex3_69 hs
            refine lv_iinc (v := x3_69) (lv' := [(3, .int x3_69), (0, .ref (q 46)), (1, .int x1), (2, .int x2), (4, .int x4_36)]) C.1 C.2.1 dX8_move_69 hl (k := 3) rfl (by rw [ex3_69]; rfl) (by decide) rfl (fun ls hl => ?_)
            refine lv_goto (tgt := 10) C.1 C.2.1 dX8_move_72 (by decide) ?_
            exact ih _ _ _ _ _ _ _ _ _ _ _ _ hs hI (lv_sub hl [1, 2, 3, 0] rfl) kk0
          · have hs := if_f cn hs
            refine lv_iload_n C.1 C.2.1 dX8_move_67 rfl (lv_at hl 3 rfl) ?_
            refine lv_istore_n (lv' := [(2, .int x3), (0, .ref (q 46)), (1, .int x1), (3, .int x3), (4, .int x4_36)]) C.1 C.2.1 dX8_move_68 rfl hl (by decide) rfl (fun ls hl => ?_)
            obtain ⟨x3_69, ex3_69⟩ : ∃ y : Int32, y = (x3 + 1) := ⟨_, rfl⟩
            have hs := gv_at ex3_69 hs
            refine lv_iinc (v := x3_69) (lv' := [(3, .int x3_69), (2, .int x3), (0, .ref (q 46)), (1, .int x1), (4, .int x4_36)]) C.1 C.2.1 dX8_move_69 hl (k := 3) rfl (by rw [ex3_69]; rfl) (by decide) rfl (fun ls hl => ?_)
            refine lv_goto (tgt := 10) C.1 C.2.1 dX8_move_72 (by decide) ?_
            exact ih _ _ _ _ _ _ _ _ _ _ _ _ hs hI (lv_sub hl [2, 3, 1, 0] rfl) kk0
  obtain ⟨⟨x2_10, J_L, A_L, B_L⟩, hL, hs⟩ := bd_e hs
  refine KL_10 FU _ _ _ _ _ _ _ _ _ _ _ _ hL hI (lv_sub hl [3, 2, 1, 0] rfl) (fun z0 z1 z2 z3 H locs ls eo hI hl => ?_)
  obtain ⟨rfl, rfl, rfl, rfl⟩ := pr4 eo
  refine lv_aload_n C.1 C.2.1 dX8_move_75 rfl (lv_at hl 0 rfl) ?_
  refine mg_1 C hI dX8_move_76 ?_
  refine lv_sipush (v := 159) C.1 C.2.1 dX8_move_79 (by decide) ?_
  refine lv_iload_n C.1 C.2.1 dX8_move_82 rfl (lv_at hl 1 rfl) ?_
  refine ms_1 C hI (by decide) dX8_move_83 (fun H locs hI => ?_)
  have hs := gv_be hs
  refine lv_iload_n C.1 C.2.1 dX8_move_84 rfl (lv_at hl 2 rfl) ?_
  obtain ⟨rfl, rfl, rfl, rfl⟩ := so4 hs
  exact M_iret C hI dX8_move_85

def lX8_under_51 : Nat → Int32 → Int32 → Int32 → Int32 → (Nat → Int32) → (Nat → Int64) → (Nat → Nat → Int32) → (Nat → Nat → Int64) → Option (Int32)
  | 0, _, _, _, _, _, _, _, _ => none
  | n + 1, x1, x3, x4, x5, I, J, A, B =>
    if (A 1 (ix (1636 : Int32))) ≤ x5 then
    (some x4)
    else
    ck (inB ((637 : Int32) + ((3 : Int32) * x5)) 8047) <|
    (sX8_windOf x1 (0 : Int32) I J A B).bind fun r_80 =>
    gv ((((A 1 (ix ((637 : Int32) + ((3 : Int32) * x5)))) - r_80) + (8 : Int32)) - (((A 1 (ix ((637 : Int32) + ((3 : Int32) * x5)))) - r_80) + (8 : Int32)) / (8 : Int32) * (8 : Int32)) fun x6_90 =>
    gv (if x6_90 = 0 then x3 else (if x6_90 = (1 : Int32) then (x3 / (2 : Int32)) else (if x6_90 = (7 : Int32) then (x3 / (2 : Int32)) else (0 : Int32)))) fun v_121 =>
    ck (inB (((637 : Int32) + ((3 : Int32) * x5)) + (1 : Int32)) 8047) <|
    if v_121 < (A 1 (ix (((637 : Int32) + ((3 : Int32) * x5)) + (1 : Int32)))) then
    (gv (x4 + (0 : Int32)) fun x4_165 =>
    gv (x5 + 1) fun x5_167 =>
    lX8_under_51 n x1 x3 x4_165 x5_167 I J A B)
    else
    ck (inB (((637 : Int32) + ((3 : Int32) * x5)) + (2 : Int32)) 8047) <|
    gv (x4 + (A 1 (ix (((637 : Int32) + ((3 : Int32) * x5)) + (2 : Int32))))) fun x4_165 =>
    gv (x5 + 1) fun x5_167 =>
    lX8_under_51 n x1 x3 x4_165 x5_167 I J A B
def sX8_under (x1 : Int32) (x2 : Int32) (I : Nat → Int32) (J : Nat → Int64) (A : Nat → Nat → Int32) (B : Nat → Nat → Int64) : Option ((Int32) × (Nat → Int32) × (Nat → Int64) × (Nat → Nat → Int32) × (Nat → Nat → Int64)) :=
(sX8_isWind x1 I J A B).bind fun r_2 =>
if r_2 = 0 then
(some ((-1 : Int32), I, J, A, B))
else
(sX8_in x2 (0 : Int32) (1 : Int32)).bind fun r_11 =>
if r_11 = 0 then
(some ((-1 : Int32), I, J, A, B))
else
(sX8_blows x1 x2 I J A B).bind fun (I, J, A, B) =>
if (I 16) = (-1 : Int32) then
(some ((0 : Int32), I, J, A, B))
else
gv ((3 : Int32) * ((6 : Int32) - (I 16))) fun x3_44 =>
(lX8_under_51 FU x1 x3_44 (0 : Int32) (0 : Int32) I J A B).bind fun x4_51 =>
some (x4_51, I, J, A, B)
set_option maxRecDepth 100000 in
set_option maxHeartbeats 8000000 in
theorem kX8_under (l : Launch) (D : va_G) (cy : Nat → ClassId) (q : Nat → Nat) (x1 : Int32) (x2 : Int32) (I : Nat → Int32) (J : Nat → Int64) (A : Nat → Nat → Int32) (B : Nat → Nat → Int64) (r : Int32) (I2 : Nat → Int32) (J2 : Nat → Int64) (A2 : Nat → Nat → Int32) (B2 : Nat → Nat → Int64) (hs : sX8_under x1 x2 I J A B = some (r, I2, J2, A2, B2)) : McI l yX8_under cX8_under 8 (some .int) 4 [.ref (q 46), .int x1, .int x2] D cy q I J A B (some (.int r)) I2 J2 A2 B2 := by
  refine M_start rfl rfl (Nat.le_of_ble_eq_true rfl) ?_
  intro p e s m args below meth c H locs C hI ls hl
  have hl : lv_has ls 8 [(0, .ref (q 46)), (1, .int x1), (2, .int x2)] := hl
  rw [sX8_under] at hs
  refine lv_aload_n C.1 C.2.1 dX8_under_0 rfl (lv_at hl 0 rfl) ?_
  refine lv_iload_n C.1 C.2.1 dX8_under_1 rfl (lv_at hl 1 rfl) ?_
  obtain ⟨r_2, hc, hs⟩ := bd_e hs
  refine M_call C hI (kX8_isWind l D cy q _ _ _ _ _ _ hc) ml_X8_136 im_X8_isWind se_X8_isWind ini_X8 co_X8_isWind hyX8_isWind rfl ⟨by decide, by decide⟩ hl.1 rfl (Nat.le_of_ble_eq_true rfl) dX8_under_2 (fun H locs hI => ?_)
  refine lv_if_eq (tgt := 17) C.1 C.2.1 dX8_under_5 (by decide) (fun cn => ?_) (fun cn => ?_)
  · have hs := if_t cn hs
    refine lv_iconst (v := -1) C.1 C.2.1 dX8_under_17 (by decide) ?_
    obtain ⟨rfl, rfl, rfl, rfl, rfl⟩ := so5 hs
    exact M_iret C hI dX8_under_18
  · have hs := if_f cn hs
    refine lv_iload_n C.1 C.2.1 dX8_under_8 rfl (lv_at hl 2 rfl) ?_
    refine lv_iconst (v := 0) C.1 C.2.1 dX8_under_9 (by decide) ?_
    refine lv_iconst (v := 1) C.1 C.2.1 dX8_under_10 (by decide) ?_
    obtain ⟨r_11, hc, hs⟩ := bd_e hs
    refine S_call (h := 4) C (kX8_in l _ _ _ _ hc) ml_X8_83 st_X8_in ini_X8 co_X8_in hyX8_in rfl ⟨by decide, by decide⟩ hl.1 rfl (Nat.le_of_ble_eq_true rfl) dX8_under_11 ⟨Nat.le_refl 0, Nat.le_refl 0, Nat.le_refl _, Nat.le_refl _⟩ ?_
    refine lv_if_ne (tgt := 19) C.1 C.2.1 dX8_under_14 (by decide) (fun cn => ?_) (fun cn => ?_)
    · have hs := if_f cn hs
      refine lv_aload_n C.1 C.2.1 dX8_under_19 rfl (lv_at hl 0 rfl) ?_
      refine lv_iload_n C.1 C.2.1 dX8_under_20 rfl (lv_at hl 1 rfl) ?_
      refine lv_iload_n C.1 C.2.1 dX8_under_21 rfl (lv_at hl 2 rfl) ?_
      obtain ⟨⟨I, J, A, B⟩, hc, hs⟩ := bd_e hs
      refine M_call C hI (kX8_blows l D cy q _ _ _ _ _ _ _ _ _ _ hc) ml_X8_161 im_X8_blows se_X8_blows ini_X8 co_X8_blows hyX8_blows rfl ⟨by decide, by decide⟩ hl.1 rfl (Nat.le_of_ble_eq_true rfl) dX8_under_22 (fun H locs hI => ?_)
      refine lv_aload_n C.1 C.2.1 dX8_under_25 rfl (lv_at hl 0 rfl) ?_
      refine mg_16 C hI dX8_under_26 ?_
      refine lv_iconst (v := -1) C.1 C.2.1 dX8_under_29 (by decide) ?_
      refine lv_icmp_ne (tgt := 35) C.1 C.2.1 dX8_under_30 (by decide) (fun cn => ?_) (fun cn => ?_)
      · have hs := if_f cn hs
        refine lv_iconst (v := 3) C.1 C.2.1 dX8_under_35 (by decide) ?_
        refine lv_bipush (v := 6) C.1 C.2.1 dX8_under_36 (by decide) ?_
        refine lv_aload_n C.1 C.2.1 dX8_under_38 rfl (lv_at hl 0 rfl) ?_
        refine mg_16 C hI dX8_under_39 ?_
        refine lv_isub C.1 C.2.1 dX8_under_42 ?_
        refine lv_imul C.1 C.2.1 dX8_under_43 ?_
        refine lv_topi (fun x3_44 ex3_44 => ?_)
        have hs := gv_at ex3_44 hs
        refine lv_istore_n (lv' := [(3, .int x3_44), (0, .ref (q 46)), (1, .int x1), (2, .int x2)]) C.1 C.2.1 dX8_under_44 rfl hl (by decide) rfl (fun ls hl => ?_)
        refine lv_iconst (v := 0) C.1 C.2.1 dX8_under_45 (by decide) ?_
        refine lv_istore (lv' := [(4, .int (0 : Int32)), (3, .int x3_44), (0, .ref (q 46)), (1, .int x1), (2, .int x2)]) C.1 C.2.1 dX8_under_46 hl (by decide) rfl (fun ls hl => ?_)
        refine lv_iconst (v := 0) C.1 C.2.1 dX8_under_48 (by decide) ?_
        refine lv_istore (lv' := [(5, .int (0 : Int32)), (4, .int (0 : Int32)), (3, .int x3_44), (0, .ref (q 46)), (1, .int x1), (2, .int x2)]) C.1 C.2.1 dX8_under_49 hl (by decide) rfl (fun ls hl => ?_)
        have KL_51 : ∀ (n : Nat) (x1 : Int32) (x3 : Int32) (x4 : Int32) (x5 : Int32) (I : Nat → Int32) (J : Nat → Int64) (A : Nat → Nat → Int32) (B : Nat → Nat → Int64) (o : Int32) (Q : State → Prop) (H : Heap) (locs : List Loc) (ls : Array Slot), lX8_under_51 n x1 x3 x4 x5 I J A B = some o → MI D cy s s.heap H locs q I J A B → lv_has ls 8 [(0, .ref (q 46)), (1, .int x1), (3, .int x3), (4, .int x4), (5, .int x5)] → (∀ (o4_0 : Int32) (H : Heap) (locs : List Loc) (ls : Array Slot), o = o4_0 → MI D cy s s.heap H locs q I J A B → lv_has ls 8 [(4, .int o4_0)] → W p l e (rmL 4) s m args below meth c H locs 0 0 Q (F0 m 173 ls [])) → W p l e (rmL 4) s m args below meth c H locs 0 0 Q (F0 m 51 ls []) := by
          intro n; induction n with
          | zero => intro x1 x3 x4 x5 I J A B o Q H locs ls hs; rw [lX8_under_51] at hs; cases hs
          | succ n ih =>
            intro x1 x3 x4 x5 I J A B o Q H locs ls hs hI hl kk0
            rw [lX8_under_51] at hs
            refine lv_iload C.1 C.2.1 dX8_under_51 (lv_at hl 4 rfl) ?_
            refine lv_aload_n C.1 C.2.1 dX8_under_53 rfl (lv_at hl 0 rfl) ?_
            refine mg_1 C hI dX8_under_54 ?_
            refine lv_sipush (v := 1636) C.1 C.2.1 dX8_under_57 (by decide) ?_
            refine ma_1 C hI (by decide) dX8_under_60 ?_
            refine lv_icmp_ge (tgt := 173) C.1 C.2.1 dX8_under_61 (by decide) (fun cn => ?_) (fun cn => ?_)
            · have hs := if_t cn hs
              have eo := (Option.some.inj hs).symm
              exact kk0 _ _ _ _ eo hI (lv_sub hl [3] rfl)
            · have hs := if_f cn hs
              refine lv_aload_n C.1 C.2.1 dX8_under_64 rfl (lv_at hl 0 rfl) ?_
              refine mg_1 C hI dX8_under_65 ?_
              refine lv_sipush (v := 637) C.1 C.2.1 dX8_under_68 (by decide) ?_
              refine lv_iconst (v := 3) C.1 C.2.1 dX8_under_71 (by decide) ?_
              refine lv_iload C.1 C.2.1 dX8_under_72 (lv_at hl 4 rfl) ?_
              refine lv_imul C.1 C.2.1 dX8_under_74 ?_
              refine lv_iadd C.1 C.2.1 dX8_under_75 ?_
              obtain ⟨hk, hs⟩ := ck_e hs
              refine ma_1 C hI hk dX8_under_76 ?_
              refine lv_aload_n C.1 C.2.1 dX8_under_77 rfl (lv_at hl 0 rfl) ?_
              refine lv_iload_n C.1 C.2.1 dX8_under_78 rfl (lv_at hl 1 rfl) ?_
              refine lv_iconst (v := 0) C.1 C.2.1 dX8_under_79 (by decide) ?_
              obtain ⟨r_80, hc, hs⟩ := bd_e hs
              refine M_call C hI (kX8_windOf l D cy q _ _ _ _ _ _ _ hc) ml_X8_109 im_X8_windOf se_X8_windOf ini_X8 co_X8_windOf hyX8_windOf rfl ⟨by decide, by decide⟩ hl.1 rfl (Nat.le_of_ble_eq_true rfl) dX8_under_80 (fun H locs hI => ?_)
              refine lv_isub C.1 C.2.1 dX8_under_83 ?_
              refine lv_bipush (v := 8) C.1 C.2.1 dX8_under_84 (by decide) ?_
              refine lv_iadd C.1 C.2.1 dX8_under_86 ?_
              refine lv_bipush (v := 8) C.1 C.2.1 dX8_under_87 (by decide) ?_
              refine lv_irem C.1 C.2.1 dX8_under_89 (by decide) ?_
              refine lv_topi (fun x6_90 ex6_90 => ?_)
              have hs := gv_at ex6_90 hs
              refine lv_istore (lv' := [(6, .int x6_90), (0, .ref (q 46)), (1, .int x1), (3, .int x3), (4, .int x4), (5, .int x5)]) C.1 C.2.1 dX8_under_90 hl (by decide) rfl (fun ls hl => ?_)
              refine lv_iload C.1 C.2.1 dX8_under_92 (lv_at hl 0 rfl) ?_
              obtain ⟨v_121, ev_121, hs⟩ := gv_ex hs
              have KP_121 : W p l e (rmL 4) s m args below meth c H locs 0 0 Q (F0 m 121 ls [.int v_121]) := by
                refine lv_istore (lv' := [(7, .int v_121), (6, .int x6_90), (0, .ref (q 46)), (1, .int x1), (3, .int x3), (4, .int x4), (5, .int x5)]) C.1 C.2.1 dX8_under_121 hl (by decide) rfl (fun ls hl => ?_)
                refine lv_iload C.1 C.2.1 dX8_under_123 (lv_at hl 5 rfl) ?_
                refine lv_aload_n C.1 C.2.1 dX8_under_125 rfl (lv_at hl 2 rfl) ?_
                refine mg_1 C hI dX8_under_126 ?_
                refine lv_sipush (v := 637) C.1 C.2.1 dX8_under_129 (by decide) ?_
                refine lv_iconst (v := 3) C.1 C.2.1 dX8_under_132 (by decide) ?_
                refine lv_iload C.1 C.2.1 dX8_under_133 (lv_at hl 6 rfl) ?_
                refine lv_imul C.1 C.2.1 dX8_under_135 ?_
                refine lv_iadd C.1 C.2.1 dX8_under_136 ?_
                refine lv_iconst (v := 1) C.1 C.2.1 dX8_under_137 (by decide) ?_
                refine lv_iadd C.1 C.2.1 dX8_under_138 ?_
                obtain ⟨hk, hs⟩ := ck_e hs
                refine ma_1 C hI hk dX8_under_139 ?_
                refine lv_iload C.1 C.2.1 dX8_under_140 (lv_at hl 0 rfl) ?_
                refine lv_icmp_gt (tgt := 163) C.1 C.2.1 dX8_under_142 (by decide) (fun cn => ?_) (fun cn => ?_)
                · have hs := if_t cn hs
                  refine lv_iconst (v := 0) C.1 C.2.1 dX8_under_163 (by decide) ?_
                  refine lv_iadd C.1 C.2.1 dX8_under_164 ?_
                  refine lv_topi (fun x4_165 ex4_165 => ?_)
                  have hs := gv_at ex4_165 hs
                  refine lv_istore (lv' := [(4, .int x4_165), (7, .int v_121), (6, .int x6_90), (0, .ref (q 46)), (1, .int x1), (3, .int x3), (5, .int x5)]) C.1 C.2.1 dX8_under_165 hl (by decide) rfl (fun ls hl => ?_)
                  obtain ⟨x5_167, ex5_167⟩ : ∃ y : Int32, y = (x5 + 1) := ⟨_, rfl⟩
                  have hs := gv_at ex5_167 hs
                  refine lv_iinc (v := x5_167) (lv' := [(5, .int x5_167), (4, .int x4_165), (7, .int v_121), (6, .int x6_90), (0, .ref (q 46)), (1, .int x1), (3, .int x3)]) C.1 C.2.1 dX8_under_167 hl (k := 6) rfl (by rw [ex5_167]; rfl) (by decide) rfl (fun ls hl => ?_)
                  refine lv_goto (tgt := 51) C.1 C.2.1 dX8_under_170 (by decide) ?_
                  exact ih _ _ _ _ _ _ _ _ _ _ _ _ _ hs hI (lv_sub hl [4, 5, 6, 1, 0] rfl) kk0
                · have hs := if_f cn hs
                  refine lv_aload_n C.1 C.2.1 dX8_under_145 rfl (lv_at hl 2 rfl) ?_
                  refine mg_1 C hI dX8_under_146 ?_
                  refine lv_sipush (v := 637) C.1 C.2.1 dX8_under_149 (by decide) ?_
                  refine lv_iconst (v := 3) C.1 C.2.1 dX8_under_152 (by decide) ?_
                  refine lv_iload C.1 C.2.1 dX8_under_153 (lv_at hl 6 rfl) ?_
                  refine lv_imul C.1 C.2.1 dX8_under_155 ?_
                  refine lv_iadd C.1 C.2.1 dX8_under_156 ?_
                  refine lv_iconst (v := 2) C.1 C.2.1 dX8_under_157 (by decide) ?_
                  refine lv_iadd C.1 C.2.1 dX8_under_158 ?_
                  obtain ⟨hk, hs⟩ := ck_e hs
                  refine ma_1 C hI hk dX8_under_159 ?_
                  refine lv_goto (tgt := 164) C.1 C.2.1 dX8_under_160 (by decide) ?_
                  refine lv_iadd C.1 C.2.1 dX8_under_164 ?_
                  refine lv_topi (fun x4_165 ex4_165 => ?_)
                  have hs := gv_at ex4_165 hs
                  refine lv_istore (lv' := [(4, .int x4_165), (7, .int v_121), (6, .int x6_90), (0, .ref (q 46)), (1, .int x1), (3, .int x3), (5, .int x5)]) C.1 C.2.1 dX8_under_165 hl (by decide) rfl (fun ls hl => ?_)
                  obtain ⟨x5_167, ex5_167⟩ : ∃ y : Int32, y = (x5 + 1) := ⟨_, rfl⟩
                  have hs := gv_at ex5_167 hs
                  refine lv_iinc (v := x5_167) (lv' := [(5, .int x5_167), (4, .int x4_165), (7, .int v_121), (6, .int x6_90), (0, .ref (q 46)), (1, .int x1), (3, .int x3)]) C.1 C.2.1 dX8_under_167 hl (k := 6) rfl (by rw [ex5_167]; rfl) (by decide) rfl (fun ls hl => ?_)
                  refine lv_goto (tgt := 51) C.1 C.2.1 dX8_under_170 (by decide) ?_
                  exact ih _ _ _ _ _ _ _ _ _ _ _ _ _ hs hI (lv_sub hl [4, 5, 6, 1, 0] rfl) kk0
              refine lv_if_ne (tgt := 101) C.1 C.2.1 dX8_under_94 (by decide) (fun cn => ?_) (fun cn => ?_)
              · have ev_121 := if_f' cn ev_121
                refine lv_iload C.1 C.2.1 dX8_under_101 (lv_at hl 0 rfl) ?_
                refine lv_iconst (v := 1) C.1 C.2.1 dX8_under_103 (by decide) ?_
                refine lv_icmp_eq (tgt := 114) C.1 C.2.1 dX8_under_104 (by decide) (fun cn => ?_) (fun cn => ?_)
                · have ev_121 := if_t' cn ev_121
                  refine lv_iload_n C.1 C.2.1 dX8_under_114 rfl (lv_at hl 3 rfl) ?_
                  refine lv_iconst (v := 2) C.1 C.2.1 dX8_under_115 (by decide) ?_
                  refine lv_idiv C.1 C.2.1 dX8_under_116 (by decide) ?_
                  refine lv_goto (tgt := 121) C.1 C.2.1 dX8_under_117 (by decide) ?_
                  subst ev_121
                  exact KP_121
                · have ev_121 := if_f' cn ev_121
                  refine lv_iload C.1 C.2.1 dX8_under_107 (lv_at hl 0 rfl) ?_
                  refine lv_bipush (v := 7) C.1 C.2.1 dX8_under_109 (by decide) ?_
                  refine lv_icmp_ne (tgt := 120) C.1 C.2.1 dX8_under_111 (by decide) (fun cn => ?_) (fun cn => ?_)
                  · have ev_121 := if_f' cn ev_121
                    refine lv_iconst (v := 0) C.1 C.2.1 dX8_under_120 (by decide) ?_
                    subst ev_121
                    exact KP_121
                  · have ev_121 := if_t' cn ev_121
                    refine lv_iload_n C.1 C.2.1 dX8_under_114 rfl (lv_at hl 3 rfl) ?_
                    refine lv_iconst (v := 2) C.1 C.2.1 dX8_under_115 (by decide) ?_
                    refine lv_idiv C.1 C.2.1 dX8_under_116 (by decide) ?_
                    refine lv_goto (tgt := 121) C.1 C.2.1 dX8_under_117 (by decide) ?_
                    subst ev_121
                    exact KP_121
              · have ev_121 := if_t' cn ev_121
                refine lv_iload_n C.1 C.2.1 dX8_under_97 rfl (lv_at hl 3 rfl) ?_
                refine lv_goto (tgt := 121) C.1 C.2.1 dX8_under_98 (by decide) ?_
                subst ev_121
                exact KP_121
        obtain ⟨x4_51, hL, hs⟩ := bd_e hs
        refine KL_51 FU _ _ _ _ _ _ _ _ _ _ _ _ _ hL hI (lv_sub hl [3, 4, 2, 1, 0] rfl) (fun z0 H locs ls eo hI hl => ?_)
        subst eo
        refine lv_iload C.1 C.2.1 dX8_under_173 (lv_at hl 0 rfl) ?_
        obtain ⟨rfl, rfl, rfl, rfl, rfl⟩ := so5 hs
        exact M_iret C hI dX8_under_175
      · have hs := if_t cn hs
        refine lv_iconst (v := 0) C.1 C.2.1 dX8_under_33 (by decide) ?_
        obtain ⟨rfl, rfl, rfl, rfl, rfl⟩ := so5 hs
        exact M_iret C hI dX8_under_34
    · have hs := if_t cn hs
      refine lv_iconst (v := -1) C.1 C.2.1 dX8_under_17 (by decide) ?_
      obtain ⟨rfl, rfl, rfl, rfl, rfl⟩ := so5 hs
      exact M_iret C hI dX8_under_18

def lX8_saw_6 : Nat → Int32 → (Nat → Int32) → (Nat → Int64) → (Nat → Nat → Int32) → (Nat → Nat → Int64) → Option ((Nat → Nat → Int32))
  | 0, _, _, _, _, _ => none
  | n + 1, x1, I, J, A, B =>
    if (48 : Int32) ≤ x1 then
    (some A)
    else
    (sX8_becomes x1 (0 : Int32) I J A B).bind fun A =>
    gv (x1 + 1) fun x1_18 =>
    lX8_saw_6 n x1_18 I J A B
def lX8_saw_34 : Nat → Int32 → Int32 → Int32 → (Nat → Int32) → (Nat → Int64) → (Nat → Nat → Int32) → (Nat → Nat → Int64) → Option (Int32 × (Nat → Int32) × (Nat → Int64) × (Nat → Nat → Int32) × (Nat → Nat → Int64))
  | 0, _, _, _, _, _, _, _ => none
  | n + 1, x1, x2, x3, I, J, A, B =>
    if (A 1 (ix (1635 : Int32))) ≤ x3 then
    (some (x2, I, J, A, B))
    else
    if x2 = (-1 : Int32) then
    ((sX8_stepOf x3 (1 : Int32) I J A B).bind fun r_55 =>
    (sX8_stepOf x3 (2 : Int32) I J A B).bind fun r_61 =>
    (sX8_becomes r_55 r_61 I J A B).bind fun A =>
    (sX8_fallsBy (1 : Int32) I J A B).bind fun (r_69, I, J, A, B) =>
    if (r_69 &&& (x1 ^^^ (-1 : Int32))) = 0 then
    (gv (x3 + 1) fun x3_88 =>
    lX8_saw_34 n r_69 x2 x3_88 I J A B)
    else
    gv (x3 + 1) fun x3_88 =>
    lX8_saw_34 n r_69 x3 x3_88 I J A B)
    else
    some (x2, I, J, A, B)
def sX8_saw (I : Nat → Int32) (J : Nat → Int64) (A : Nat → Nat → Int32) (B : Nat → Nat → Int64) : Option ((Int32) × (Nat → Int32) × (Nat → Int64) × (Nat → Nat → Int32) × (Nat → Nat → Int64)) :=
(sX8_saves  I J A B).bind fun A =>
(lX8_saw_6 FU (0 : Int32) I J A B).bind fun A =>
(sX8_fallsBy (1 : Int32) I J A B).bind fun (r_26, I, J, A, B) =>
(lX8_saw_34 FU r_26 (-1 : Int32) (0 : Int32) I J A B).bind fun (x2_34, I, J, A, B) =>
(sX8_restores  I J A B).bind fun A =>
some (x2_34, I, J, A, B)
set_option maxRecDepth 100000 in
set_option maxHeartbeats 8000000 in
theorem kX8_saw (l : Launch) (D : va_G) (cy : Nat → ClassId) (q : Nat → Nat) (I : Nat → Int32) (J : Nat → Int64) (A : Nat → Nat → Int32) (B : Nat → Nat → Int64) (r : Int32) (I2 : Nat → Int32) (J2 : Nat → Int64) (A2 : Nat → Nat → Int32) (B2 : Nat → Nat → Int64) (hs : sX8_saw I J A B = some (r, I2, J2, A2, B2)) : McI l yX8_saw cX8_saw 5 (some .int) 5 [.ref (q 46)] D cy q I J A B (some (.int r)) I2 J2 A2 B2 := by
  refine M_start rfl rfl (Nat.le_of_ble_eq_true rfl) ?_
  intro p e s m args below meth c H locs C hI ls hl
  have hl : lv_has ls 5 [(0, .ref (q 46))] := hl
  rw [sX8_saw] at hs
  refine lv_aload_n C.1 C.2.1 dX8_saw_0 rfl (lv_at hl 0 rfl) ?_
  obtain ⟨A, hc, hs⟩ := bd_e hs
  refine M_call C hI (kX8_saves l D cy q _ _ _ _ _ hc) ml_X8_322 im_X8_saves se_X8_saves ini_X8 co_X8_saves hyX8_saves rfl ⟨by decide, by decide⟩ hl.1 rfl (Nat.le_of_ble_eq_true rfl) dX8_saw_1 (fun H locs hI => ?_)
  refine lv_iconst (v := 0) C.1 C.2.1 dX8_saw_4 (by decide) ?_
  refine lv_istore_n (lv' := [(1, .int (0 : Int32)), (0, .ref (q 46))]) C.1 C.2.1 dX8_saw_5 rfl hl (by decide) rfl (fun ls hl => ?_)
  have KL_6 : ∀ (n : Nat) (x1 : Int32) (I : Nat → Int32) (J : Nat → Int64) (A : Nat → Nat → Int32) (B : Nat → Nat → Int64) (o : (Nat → Nat → Int32)) (Q : State → Prop) (H : Heap) (locs : List Loc) (ls : Array Slot), lX8_saw_6 n x1 I J A B = some o → MI D cy s s.heap H locs q I J A B → lv_has ls 5 [(0, .ref (q 46)), (1, .int x1)] → (∀ (A_0 : Nat → Nat → Int32) (H : Heap) (locs : List Loc) (ls : Array Slot), o = A_0 → MI D cy s s.heap H locs q I J A_0 B → lv_has ls 5 [(0, .ref (q 46))] → W p l e (rmL 5) s m args below meth c H locs 0 0 Q (F0 m 24 ls [])) → W p l e (rmL 5) s m args below meth c H locs 0 0 Q (F0 m 6 ls []) := by
    intro n; induction n with
    | zero => intro x1 I J A B o Q H locs ls hs; rw [lX8_saw_6] at hs; cases hs
    | succ n ih =>
      intro x1 I J A B o Q H locs ls hs hI hl kk0
      rw [lX8_saw_6] at hs
      refine lv_iload_n C.1 C.2.1 dX8_saw_6 rfl (lv_at hl 1 rfl) ?_
      refine lv_bipush (v := 48) C.1 C.2.1 dX8_saw_7 (by decide) ?_
      refine lv_icmp_ge (tgt := 24) C.1 C.2.1 dX8_saw_9 (by decide) (fun cn => ?_) (fun cn => ?_)
      · have hs := if_t cn hs
        have eo := (Option.some.inj hs).symm
        exact kk0 _ _ _ _ eo hI (lv_sub hl [0] rfl)
      · have hs := if_f cn hs
        refine lv_aload_n C.1 C.2.1 dX8_saw_12 rfl (lv_at hl 0 rfl) ?_
        refine lv_iload_n C.1 C.2.1 dX8_saw_13 rfl (lv_at hl 1 rfl) ?_
        refine lv_iconst (v := 0) C.1 C.2.1 dX8_saw_14 (by decide) ?_
        obtain ⟨A, hc, hs⟩ := bd_e hs
        refine M_call C hI (kX8_becomes l D cy q _ _ _ _ _ _ _ hc) ml_X8_319 im_X8_becomes se_X8_becomes ini_X8 co_X8_becomes hyX8_becomes rfl ⟨by decide, by decide⟩ hl.1 rfl (Nat.le_of_ble_eq_true rfl) dX8_saw_15 (fun H locs hI => ?_)
        obtain ⟨x1_18, ex1_18⟩ : ∃ y : Int32, y = (x1 + 1) := ⟨_, rfl⟩
        have hs := gv_at ex1_18 hs
        refine lv_iinc (v := x1_18) (lv' := [(1, .int x1_18), (0, .ref (q 46))]) C.1 C.2.1 dX8_saw_18 hl (k := 1) rfl (by rw [ex1_18]; rfl) (by decide) rfl (fun ls hl => ?_)
        refine lv_goto (tgt := 6) C.1 C.2.1 dX8_saw_21 (by decide) ?_
        exact ih _ _ _ _ _ _ _ _ _ _ hs hI (lv_sub hl [1, 0] rfl) kk0
  obtain ⟨A_L, hL, hs⟩ := bd_e hs
  refine KL_6 FU _ _ _ _ _ _ _ _ _ _ hL hI (lv_sub hl [1, 0] rfl) (fun z0 H locs ls eo hI hl => ?_)
  subst eo
  refine lv_aload_n C.1 C.2.1 dX8_saw_24 rfl (lv_at hl 0 rfl) ?_
  refine lv_iconst (v := 1) C.1 C.2.1 dX8_saw_25 (by decide) ?_
  obtain ⟨⟨r_26, I, J, A, B⟩, hc, hs⟩ := bd_e hs
  refine M_call C hI (kX8_fallsBy l D cy q _ _ _ _ _ _ _ _ _ _ hc) ml_X8_325 im_X8_fallsBy se_X8_fallsBy ini_X8 co_X8_fallsBy hyX8_fallsBy rfl ⟨by decide, by decide⟩ hl.1 rfl (Nat.le_of_ble_eq_true rfl) dX8_saw_26 (fun H locs hI => ?_)
  refine lv_istore_n (lv' := [(1, .int r_26), (0, .ref (q 46))]) C.1 C.2.1 dX8_saw_29 rfl hl (by decide) rfl (fun ls hl => ?_)
  refine lv_iconst (v := -1) C.1 C.2.1 dX8_saw_30 (by decide) ?_
  refine lv_istore_n (lv' := [(2, .int (-1 : Int32)), (1, .int r_26), (0, .ref (q 46))]) C.1 C.2.1 dX8_saw_31 rfl hl (by decide) rfl (fun ls hl => ?_)
  refine lv_iconst (v := 0) C.1 C.2.1 dX8_saw_32 (by decide) ?_
  refine lv_istore_n (lv' := [(3, .int (0 : Int32)), (2, .int (-1 : Int32)), (1, .int r_26), (0, .ref (q 46))]) C.1 C.2.1 dX8_saw_33 rfl hl (by decide) rfl (fun ls hl => ?_)
  have KL_34 : ∀ (n : Nat) (x1 : Int32) (x2 : Int32) (x3 : Int32) (I : Nat → Int32) (J : Nat → Int64) (A : Nat → Nat → Int32) (B : Nat → Nat → Int64) (o : Int32 × (Nat → Int32) × (Nat → Int64) × (Nat → Nat → Int32) × (Nat → Nat → Int64)) (Q : State → Prop) (H : Heap) (locs : List Loc) (ls : Array Slot), lX8_saw_34 n x1 x2 x3 I J A B = some o → MI D cy s s.heap H locs q I J A B → lv_has ls 5 [(0, .ref (q 46)), (1, .int x1), (2, .int x2), (3, .int x3)] → (∀ (o2_0 : Int32) (I_0 : Nat → Int32) (J_0 : Nat → Int64) (A_0 : Nat → Nat → Int32) (B_0 : Nat → Nat → Int64) (H : Heap) (locs : List Loc) (ls : Array Slot), o = (o2_0, I_0, J_0, A_0, B_0) → MI D cy s s.heap H locs q I_0 J_0 A_0 B_0 → lv_has ls 5 [(0, .ref (q 46)), (2, .int o2_0)] → W p l e (rmL 5) s m args below meth c H locs 0 0 Q (F0 m 94 ls [])) → W p l e (rmL 5) s m args below meth c H locs 0 0 Q (F0 m 34 ls []) := by
    intro n; induction n with
    | zero => intro x1 x2 x3 I J A B o Q H locs ls hs; rw [lX8_saw_34] at hs; cases hs
    | succ n ih =>
      intro x1 x2 x3 I J A B o Q H locs ls hs hI hl kk0
      rw [lX8_saw_34] at hs
      refine lv_iload_n C.1 C.2.1 dX8_saw_34 rfl (lv_at hl 3 rfl) ?_
      refine lv_aload_n C.1 C.2.1 dX8_saw_35 rfl (lv_at hl 0 rfl) ?_
      refine mg_1 C hI dX8_saw_36 ?_
      refine lv_sipush (v := 1635) C.1 C.2.1 dX8_saw_39 (by decide) ?_
      refine ma_1 C hI (by decide) dX8_saw_42 ?_
      refine lv_icmp_ge (tgt := 94) C.1 C.2.1 dX8_saw_43 (by decide) (fun cn => ?_) (fun cn => ?_)
      · have hs := if_t cn hs
        have eo := (Option.some.inj hs).symm
        exact kk0 _ _ _ _ _ _ _ _ eo hI (lv_sub hl [0, 2] rfl)
      · have hs := if_f cn hs
        refine lv_iload_n C.1 C.2.1 dX8_saw_46 rfl (lv_at hl 2 rfl) ?_
        refine lv_iconst (v := -1) C.1 C.2.1 dX8_saw_47 (by decide) ?_
        refine lv_icmp_ne (tgt := 94) C.1 C.2.1 dX8_saw_48 (by decide) (fun cn => ?_) (fun cn => ?_)
        · have hs := if_f cn hs
          have eo := (Option.some.inj hs).symm
          exact kk0 _ _ _ _ _ _ _ _ eo hI (lv_sub hl [0, 2] rfl)
        · have hs := if_t cn hs
          refine lv_aload_n C.1 C.2.1 dX8_saw_51 rfl (lv_at hl 0 rfl) ?_
          refine lv_aload_n C.1 C.2.1 dX8_saw_52 rfl (lv_at hl 0 rfl) ?_
          refine lv_iload_n C.1 C.2.1 dX8_saw_53 rfl (lv_at hl 3 rfl) ?_
          refine lv_iconst (v := 1) C.1 C.2.1 dX8_saw_54 (by decide) ?_
          obtain ⟨r_55, hc, hs⟩ := bd_e hs
          refine M_call C hI (kX8_stepOf l D cy q _ _ _ _ _ _ _ hc) ml_X8_316 im_X8_stepOf se_X8_stepOf ini_X8 co_X8_stepOf hyX8_stepOf rfl ⟨by decide, by decide⟩ hl.1 rfl (Nat.le_of_ble_eq_true rfl) dX8_saw_55 (fun H locs hI => ?_)
          refine lv_aload_n C.1 C.2.1 dX8_saw_58 rfl (lv_at hl 0 rfl) ?_
          refine lv_iload_n C.1 C.2.1 dX8_saw_59 rfl (lv_at hl 3 rfl) ?_
          refine lv_iconst (v := 2) C.1 C.2.1 dX8_saw_60 (by decide) ?_
          obtain ⟨r_61, hc, hs⟩ := bd_e hs
          refine M_call C hI (kX8_stepOf l D cy q _ _ _ _ _ _ _ hc) ml_X8_316 im_X8_stepOf se_X8_stepOf ini_X8 co_X8_stepOf hyX8_stepOf rfl ⟨by decide, by decide⟩ hl.1 rfl (Nat.le_of_ble_eq_true rfl) dX8_saw_61 (fun H locs hI => ?_)
          obtain ⟨A, hc, hs⟩ := bd_e hs
          refine M_call C hI (kX8_becomes l D cy q _ _ _ _ _ _ _ hc) ml_X8_319 im_X8_becomes se_X8_becomes ini_X8 co_X8_becomes hyX8_becomes rfl ⟨by decide, by decide⟩ hl.1 rfl (Nat.le_of_ble_eq_true rfl) dX8_saw_64 (fun H locs hI => ?_)
          refine lv_aload_n C.1 C.2.1 dX8_saw_67 rfl (lv_at hl 0 rfl) ?_
          refine lv_iconst (v := 1) C.1 C.2.1 dX8_saw_68 (by decide) ?_
          obtain ⟨⟨r_69, I, J, A, B⟩, hc, hs⟩ := bd_e hs
          refine M_call C hI (kX8_fallsBy l D cy q _ _ _ _ _ _ _ _ _ _ hc) ml_X8_325 im_X8_fallsBy se_X8_fallsBy ini_X8 co_X8_fallsBy hyX8_fallsBy rfl ⟨by decide, by decide⟩ hl.1 rfl (Nat.le_of_ble_eq_true rfl) dX8_saw_69 (fun H locs hI => ?_)
          refine lv_istore (lv' := [(4, .int r_69), (0, .ref (q 46)), (1, .int x1), (2, .int x2), (3, .int x3)]) C.1 C.2.1 dX8_saw_72 hl (by decide) rfl (fun ls hl => ?_)
          refine lv_iload C.1 C.2.1 dX8_saw_74 (lv_at hl 0 rfl) ?_
          refine lv_iload_n C.1 C.2.1 dX8_saw_76 rfl (lv_at hl 2 rfl) ?_
          refine lv_iconst (v := -1) C.1 C.2.1 dX8_saw_77 (by decide) ?_
          refine lv_ixor C.1 C.2.1 dX8_saw_78 ?_
          refine lv_iand C.1 C.2.1 dX8_saw_79 ?_
          refine lv_if_eq (tgt := 85) C.1 C.2.1 dX8_saw_80 (by decide) (fun cn => ?_) (fun cn => ?_)
          · have hs := if_t cn hs
            refine lv_iload C.1 C.2.1 dX8_saw_85 (lv_at hl 0 rfl) ?_
            refine lv_istore_n (lv' := [(1, .int r_69), (4, .int r_69), (0, .ref (q 46)), (2, .int x2), (3, .int x3)]) C.1 C.2.1 dX8_saw_87 rfl hl (by decide) rfl (fun ls hl => ?_)
            obtain ⟨x3_88, ex3_88⟩ : ∃ y : Int32, y = (x3 + 1) := ⟨_, rfl⟩
            have hs := gv_at ex3_88 hs
            refine lv_iinc (v := x3_88) (lv' := [(3, .int x3_88), (1, .int r_69), (4, .int r_69), (0, .ref (q 46)), (2, .int x2)]) C.1 C.2.1 dX8_saw_88 hl (k := 4) rfl (by rw [ex3_88]; rfl) (by decide) rfl (fun ls hl => ?_)
            refine lv_goto (tgt := 34) C.1 C.2.1 dX8_saw_91 (by decide) ?_
            exact ih _ _ _ _ _ _ _ _ _ _ _ _ hs hI (lv_sub hl [3, 1, 4, 0] rfl) kk0
          · have hs := if_f cn hs
            refine lv_iload_n C.1 C.2.1 dX8_saw_83 rfl (lv_at hl 4 rfl) ?_
            refine lv_istore_n (lv' := [(2, .int x3), (4, .int r_69), (0, .ref (q 46)), (1, .int x1), (3, .int x3)]) C.1 C.2.1 dX8_saw_84 rfl hl (by decide) rfl (fun ls hl => ?_)
            refine lv_iload C.1 C.2.1 dX8_saw_85 (lv_at hl 1 rfl) ?_
            refine lv_istore_n (lv' := [(1, .int r_69), (2, .int x3), (4, .int r_69), (0, .ref (q 46)), (3, .int x3)]) C.1 C.2.1 dX8_saw_87 rfl hl (by decide) rfl (fun ls hl => ?_)
            obtain ⟨x3_88, ex3_88⟩ : ∃ y : Int32, y = (x3 + 1) := ⟨_, rfl⟩
            have hs := gv_at ex3_88 hs
            refine lv_iinc (v := x3_88) (lv' := [(3, .int x3_88), (1, .int r_69), (2, .int x3), (4, .int r_69), (0, .ref (q 46))]) C.1 C.2.1 dX8_saw_88 hl (k := 4) rfl (by rw [ex3_88]; rfl) (by decide) rfl (fun ls hl => ?_)
            refine lv_goto (tgt := 34) C.1 C.2.1 dX8_saw_91 (by decide) ?_
            exact ih _ _ _ _ _ _ _ _ _ _ _ _ hs hI (lv_sub hl [4, 1, 2, 0] rfl) kk0
  obtain ⟨⟨x2_34, I_L, J_L, A_L, B_L⟩, hL, hs⟩ := bd_e hs
  refine KL_34 FU _ _ _ _ _ _ _ _ _ _ _ _ hL hI (lv_sub hl [3, 2, 1, 0] rfl) (fun z0 z1 z2 z3 z4 H locs ls eo hI hl => ?_)
  obtain ⟨rfl, rfl, rfl, rfl, rfl⟩ := pr5 eo
  refine lv_aload_n C.1 C.2.1 dX8_saw_94 rfl (lv_at hl 0 rfl) ?_
  obtain ⟨A, hc, hs⟩ := bd_e hs
  refine M_call C hI (kX8_restores l D cy q _ _ _ _ _ hc) ml_X8_328 im_X8_restores se_X8_restores ini_X8 co_X8_restores hyX8_restores rfl ⟨by decide, by decide⟩ hl.1 rfl (Nat.le_of_ble_eq_true rfl) dX8_saw_95 (fun H locs hI => ?_)
  refine lv_iload_n C.1 C.2.1 dX8_saw_98 rfl (lv_at hl 1 rfl) ?_
  obtain ⟨rfl, rfl, rfl, rfl, rfl⟩ := so5 hs
  exact M_iret C hI dX8_saw_99

def sX8_year (I : Nat → Int32) (J : Nat → Int64) (A : Nat → Nat → Int32) (B : Nat → Nat → Int64) : Option ((Int64) × (Nat → Int32) × (Nat → Int64) × (Nat → Nat → Int32) × (Nat → Nat → Int64)) :=
(sX8_fallsBy (1 : Int32) I J A B).bind fun (r_3, I, J, A, B) =>
(sX8_fallsBy (0 : Int32) I J A B).bind fun (r_8, I, J, A, B) =>
(sX8_term (5 : Int32) I J A B).bind fun r_13 =>
(sX8_yearBy r_3 r_8 r_13 I J A B).bind fun r_16 =>
some (r_16, I, J, A, B)
set_option maxRecDepth 100000 in
set_option maxHeartbeats 8000000 in
theorem kX8_year (l : Launch) (D : va_G) (cy : Nat → ClassId) (q : Nat → Nat) (I : Nat → Int32) (J : Nat → Int64) (A : Nat → Nat → Int32) (B : Nat → Nat → Int64) (r : Int64) (I2 : Nat → Int32) (J2 : Nat → Int64) (A2 : Nat → Nat → Int32) (B2 : Nat → Nat → Int64) (hs : sX8_year I J A B = some (r, I2, J2, A2, B2)) : McI l yX8_year cX8_year 1 (some .long) 5 [.ref (q 46)] D cy q I J A B (some (.long r)) I2 J2 A2 B2 := by
  refine M_start rfl rfl (Nat.le_of_ble_eq_true rfl) ?_
  intro p e s m args below meth c H locs C hI ls hl
  have hl : lv_has ls 1 [(0, .ref (q 46))] := hl
  rw [sX8_year] at hs
  refine lv_aload_n C.1 C.2.1 dX8_year_0 rfl (lv_at hl 0 rfl) ?_
  refine lv_aload_n C.1 C.2.1 dX8_year_1 rfl (lv_at hl 0 rfl) ?_
  refine lv_iconst (v := 1) C.1 C.2.1 dX8_year_2 (by decide) ?_
  obtain ⟨⟨r_3, I, J, A, B⟩, hc, hs⟩ := bd_e hs
  refine M_call C hI (kX8_fallsBy l D cy q _ _ _ _ _ _ _ _ _ _ hc) ml_X8_325 im_X8_fallsBy se_X8_fallsBy ini_X8 co_X8_fallsBy hyX8_fallsBy rfl ⟨by decide, by decide⟩ hl.1 rfl (Nat.le_of_ble_eq_true rfl) dX8_year_3 (fun H locs hI => ?_)
  refine lv_aload_n C.1 C.2.1 dX8_year_6 rfl (lv_at hl 0 rfl) ?_
  refine lv_iconst (v := 0) C.1 C.2.1 dX8_year_7 (by decide) ?_
  obtain ⟨⟨r_8, I, J, A, B⟩, hc, hs⟩ := bd_e hs
  refine M_call C hI (kX8_fallsBy l D cy q _ _ _ _ _ _ _ _ _ _ hc) ml_X8_325 im_X8_fallsBy se_X8_fallsBy ini_X8 co_X8_fallsBy hyX8_fallsBy rfl ⟨by decide, by decide⟩ hl.1 rfl (Nat.le_of_ble_eq_true rfl) dX8_year_8 (fun H locs hI => ?_)
  refine lv_aload_n C.1 C.2.1 dX8_year_11 rfl (lv_at hl 0 rfl) ?_
  refine lv_iconst (v := 5) C.1 C.2.1 dX8_year_12 (by decide) ?_
  obtain ⟨r_13, hc, hs⟩ := bd_e hs
  refine M_call C hI (kX8_term l D cy q _ _ _ _ _ _ hc) ml_X8_99 im_X8_term se_X8_term ini_X8 co_X8_term hyX8_term rfl ⟨by decide, by decide⟩ hl.1 rfl (Nat.le_of_ble_eq_true rfl) dX8_year_13 (fun H locs hI => ?_)
  obtain ⟨r_16, hc, hs⟩ := bd_e hs
  refine M_call C hI (kX8_yearBy l D cy q _ _ _ _ _ _ _ _ hc) ml_X8_335 im_X8_yearBy se_X8_yearBy ini_X8 co_X8_yearBy hyX8_yearBy rfl ⟨by decide, by decide⟩ hl.1 rfl (Nat.le_of_ble_eq_true rfl) dX8_year_16 (fun H locs hI => ?_)
  obtain ⟨rfl, rfl, rfl, rfl, rfl⟩ := so5 hs
  exact M_lret C hI dX8_year_19

def sX8_odds (x1 : Int32) (I : Nat → Int32) (J : Nat → Int64) (A : Nat → Nat → Int32) (B : Nat → Nat → Int64) : Option ((Int32) × (Nat → Int32) × (Nat → Int64) × (Nat → Nat → Int32) × (Nat → Nat → Int64)) :=
(sX8_in x1 (0 : Int32) (2 : Int32)).bind fun r_3 =>
if r_3 = 0 then
(some ((-1 : Int32), I, J, A, B))
else
(sX8_fallsBy (1 : Int32) I J A B).bind fun (r_13, I, J, A, B) =>
(sX8_fallsBy (0 : Int32) I J A B).bind fun (r_19, I, J, A, B) =>
(sX8_term (5 : Int32) I J A B).bind fun r_28 =>
(sX8_yearBy r_13 r_19 r_28 I J A B).bind fun r_31 =>
if x1 = 0 then
(some ((r_31.toInt32), I, J, A, B))
else
if x1 = (1 : Int32) then
((sX8_yearBy r_13 r_19 (100 : Int32) I J A B).bind fun r_55 =>
some (((r_55 - r_31).toInt32), I, J, A, B))
else
(sX8_term (5 : Int32) I J A B).bind fun r_71 =>
(sX8_term (5 : Int32) I J A B).bind fun r_76 =>
(sX8_yearBy r_13 r_19 ((r_71 * r_76) / (100 : Int32)) I J A B).bind fun r_83 =>
some (((r_31 - r_83).toInt32), I, J, A, B)
set_option maxRecDepth 100000 in
set_option maxHeartbeats 8000000 in
theorem kX8_odds (l : Launch) (D : va_G) (cy : Nat → ClassId) (q : Nat → Nat) (x1 : Int32) (I : Nat → Int32) (J : Nat → Int64) (A : Nat → Nat → Int32) (B : Nat → Nat → Int64) (r : Int32) (I2 : Nat → Int32) (J2 : Nat → Int64) (A2 : Nat → Nat → Int32) (B2 : Nat → Nat → Int64) (hs : sX8_odds x1 I J A B = some (r, I2, J2, A2, B2)) : McI l yX8_odds cX8_odds 6 (some .int) 5 [.ref (q 46), .int x1] D cy q I J A B (some (.int r)) I2 J2 A2 B2 := by
  refine M_start rfl rfl (Nat.le_of_ble_eq_true rfl) ?_
  intro p e s m args below meth c H locs C hI ls hl
  have hl : lv_has ls 6 [(0, .ref (q 46)), (1, .int x1)] := hl
  rw [sX8_odds] at hs
  refine lv_iload_n C.1 C.2.1 dX8_odds_0 rfl (lv_at hl 1 rfl) ?_
  refine lv_iconst (v := 0) C.1 C.2.1 dX8_odds_1 (by decide) ?_
  refine lv_iconst (v := 2) C.1 C.2.1 dX8_odds_2 (by decide) ?_
  obtain ⟨r_3, hc, hs⟩ := bd_e hs
  refine S_call (h := 5) C (kX8_in l _ _ _ _ hc) ml_X8_83 st_X8_in ini_X8 co_X8_in hyX8_in rfl ⟨by decide, by decide⟩ hl.1 rfl (Nat.le_of_ble_eq_true rfl) dX8_odds_3 ⟨Nat.le_refl 0, Nat.le_refl 0, Nat.le_refl _, Nat.le_refl _⟩ ?_
  refine lv_if_ne (tgt := 11) C.1 C.2.1 dX8_odds_6 (by decide) (fun cn => ?_) (fun cn => ?_)
  · have hs := if_f cn hs
    refine lv_aload_n C.1 C.2.1 dX8_odds_11 rfl (lv_at hl 0 rfl) ?_
    refine lv_iconst (v := 1) C.1 C.2.1 dX8_odds_12 (by decide) ?_
    obtain ⟨⟨r_13, I, J, A, B⟩, hc, hs⟩ := bd_e hs
    refine M_call C hI (kX8_fallsBy l D cy q _ _ _ _ _ _ _ _ _ _ hc) ml_X8_325 im_X8_fallsBy se_X8_fallsBy ini_X8 co_X8_fallsBy hyX8_fallsBy rfl ⟨by decide, by decide⟩ hl.1 rfl (Nat.le_of_ble_eq_true rfl) dX8_odds_13 (fun H locs hI => ?_)
    refine lv_istore_n (lv' := [(2, .int r_13), (0, .ref (q 46)), (1, .int x1)]) C.1 C.2.1 dX8_odds_16 rfl hl (by decide) rfl (fun ls hl => ?_)
    refine lv_aload_n C.1 C.2.1 dX8_odds_17 rfl (lv_at hl 1 rfl) ?_
    refine lv_iconst (v := 0) C.1 C.2.1 dX8_odds_18 (by decide) ?_
    obtain ⟨⟨r_19, I, J, A, B⟩, hc, hs⟩ := bd_e hs
    refine M_call C hI (kX8_fallsBy l D cy q _ _ _ _ _ _ _ _ _ _ hc) ml_X8_325 im_X8_fallsBy se_X8_fallsBy ini_X8 co_X8_fallsBy hyX8_fallsBy rfl ⟨by decide, by decide⟩ hl.1 rfl (Nat.le_of_ble_eq_true rfl) dX8_odds_19 (fun H locs hI => ?_)
    refine lv_istore_n (lv' := [(3, .int r_19), (2, .int r_13), (0, .ref (q 46)), (1, .int x1)]) C.1 C.2.1 dX8_odds_22 rfl hl (by decide) rfl (fun ls hl => ?_)
    refine lv_aload_n C.1 C.2.1 dX8_odds_23 rfl (lv_at hl 2 rfl) ?_
    refine lv_iload_n C.1 C.2.1 dX8_odds_24 rfl (lv_at hl 1 rfl) ?_
    refine lv_iload_n C.1 C.2.1 dX8_odds_25 rfl (lv_at hl 0 rfl) ?_
    refine lv_aload_n C.1 C.2.1 dX8_odds_26 rfl (lv_at hl 2 rfl) ?_
    refine lv_iconst (v := 5) C.1 C.2.1 dX8_odds_27 (by decide) ?_
    obtain ⟨r_28, hc, hs⟩ := bd_e hs
    refine M_call C hI (kX8_term l D cy q _ _ _ _ _ _ hc) ml_X8_99 im_X8_term se_X8_term ini_X8 co_X8_term hyX8_term rfl ⟨by decide, by decide⟩ hl.1 rfl (Nat.le_of_ble_eq_true rfl) dX8_odds_28 (fun H locs hI => ?_)
    obtain ⟨r_31, hc, hs⟩ := bd_e hs
    refine M_call C hI (kX8_yearBy l D cy q _ _ _ _ _ _ _ _ hc) ml_X8_335 im_X8_yearBy se_X8_yearBy ini_X8 co_X8_yearBy hyX8_yearBy rfl ⟨by decide, by decide⟩ hl.1 rfl (Nat.le_of_ble_eq_true rfl) dX8_odds_31 (fun H locs hI => ?_)
    refine lv_lstore (lv' := [(4, .long r_31), (3, .int r_19), (2, .int r_13), (0, .ref (q 46)), (1, .int x1)]) C.1 C.2.1 dX8_odds_34 hl (by decide) rfl (fun ls hl => ?_)
    refine lv_iload_n C.1 C.2.1 dX8_odds_36 rfl (lv_at hl 4 rfl) ?_
    refine lv_if_ne (tgt := 45) C.1 C.2.1 dX8_odds_37 (by decide) (fun cn => ?_) (fun cn => ?_)
    · have hs := if_f cn hs
      refine lv_iload_n C.1 C.2.1 dX8_odds_45 rfl (lv_at hl 4 rfl) ?_
      refine lv_iconst (v := 1) C.1 C.2.1 dX8_odds_46 (by decide) ?_
      refine lv_icmp_ne (tgt := 64) C.1 C.2.1 dX8_odds_47 (by decide) (fun cn => ?_) (fun cn => ?_)
      · have hs := if_f cn hs
        refine lv_lload C.1 C.2.1 dX8_odds_64 (lv_at hl 0 rfl) ?_
        refine lv_aload_n C.1 C.2.1 dX8_odds_66 rfl (lv_at hl 3 rfl) ?_
        refine lv_iload_n C.1 C.2.1 dX8_odds_67 rfl (lv_at hl 2 rfl) ?_
        refine lv_iload_n C.1 C.2.1 dX8_odds_68 rfl (lv_at hl 1 rfl) ?_
        refine lv_aload_n C.1 C.2.1 dX8_odds_69 rfl (lv_at hl 3 rfl) ?_
        refine lv_iconst (v := 5) C.1 C.2.1 dX8_odds_70 (by decide) ?_
        obtain ⟨r_71, hc, hs⟩ := bd_e hs
        refine M_call C hI (kX8_term l D cy q _ _ _ _ _ _ hc) ml_X8_99 im_X8_term se_X8_term ini_X8 co_X8_term hyX8_term rfl ⟨by decide, by decide⟩ hl.1 rfl (Nat.le_of_ble_eq_true rfl) dX8_odds_71 (fun H locs hI => ?_)
        refine lv_aload_n C.1 C.2.1 dX8_odds_74 rfl (lv_at hl 3 rfl) ?_
        refine lv_iconst (v := 5) C.1 C.2.1 dX8_odds_75 (by decide) ?_
        obtain ⟨r_76, hc, hs⟩ := bd_e hs
        refine M_call C hI (kX8_term l D cy q _ _ _ _ _ _ hc) ml_X8_99 im_X8_term se_X8_term ini_X8 co_X8_term hyX8_term rfl ⟨by decide, by decide⟩ hl.1 rfl (Nat.le_of_ble_eq_true rfl) dX8_odds_76 (fun H locs hI => ?_)
        refine lv_imul C.1 C.2.1 dX8_odds_79 ?_
        refine lv_bipush (v := 100) C.1 C.2.1 dX8_odds_80 (by decide) ?_
        refine lv_idiv C.1 C.2.1 dX8_odds_82 (by decide) ?_
        obtain ⟨r_83, hc, hs⟩ := bd_e hs
        refine M_call C hI (kX8_yearBy l D cy q _ _ _ _ _ _ _ _ hc) ml_X8_335 im_X8_yearBy se_X8_yearBy ini_X8 co_X8_yearBy hyX8_yearBy rfl ⟨by decide, by decide⟩ hl.1 rfl (Nat.le_of_ble_eq_true rfl) dX8_odds_83 (fun H locs hI => ?_)
        refine lv_lsub C.1 C.2.1 dX8_odds_86 ?_
        refine lv_l2i C.1 C.2.1 dX8_odds_87 rfl ?_
        obtain ⟨rfl, rfl, rfl, rfl, rfl⟩ := so5 hs
        exact M_iret C hI dX8_odds_88
      · have hs := if_t cn hs
        refine lv_aload_n C.1 C.2.1 dX8_odds_50 rfl (lv_at hl 3 rfl) ?_
        refine lv_iload_n C.1 C.2.1 dX8_odds_51 rfl (lv_at hl 2 rfl) ?_
        refine lv_iload_n C.1 C.2.1 dX8_odds_52 rfl (lv_at hl 1 rfl) ?_
        refine lv_bipush (v := 100) C.1 C.2.1 dX8_odds_53 (by decide) ?_
        obtain ⟨r_55, hc, hs⟩ := bd_e hs
        refine M_call C hI (kX8_yearBy l D cy q _ _ _ _ _ _ _ _ hc) ml_X8_335 im_X8_yearBy se_X8_yearBy ini_X8 co_X8_yearBy hyX8_yearBy rfl ⟨by decide, by decide⟩ hl.1 rfl (Nat.le_of_ble_eq_true rfl) dX8_odds_55 (fun H locs hI => ?_)
        refine lv_lload C.1 C.2.1 dX8_odds_58 (lv_at hl 0 rfl) ?_
        refine lv_lsub C.1 C.2.1 dX8_odds_60 ?_
        refine lv_goto (tgt := 87) C.1 C.2.1 dX8_odds_61 (by decide) ?_
        refine lv_l2i C.1 C.2.1 dX8_odds_87 rfl ?_
        obtain ⟨rfl, rfl, rfl, rfl, rfl⟩ := so5 hs
        exact M_iret C hI dX8_odds_88
    · have hs := if_t cn hs
      refine lv_lload C.1 C.2.1 dX8_odds_40 (lv_at hl 0 rfl) ?_
      refine lv_goto (tgt := 87) C.1 C.2.1 dX8_odds_42 (by decide) ?_
      refine lv_l2i C.1 C.2.1 dX8_odds_87 rfl ?_
      obtain ⟨rfl, rfl, rfl, rfl, rfl⟩ := so5 hs
      exact M_iret C hI dX8_odds_88
  · have hs := if_t cn hs
    refine lv_iconst (v := -1) C.1 C.2.1 dX8_odds_9 (by decide) ?_
    obtain ⟨rfl, rfl, rfl, rfl, rfl⟩ := so5 hs
    exact M_iret C hI dX8_odds_10

def lX8_prices_18 : Nat → Int32 → Int32 → (Nat → Int32) → (Nat → Int64) → (Nat → Nat → Int32) → (Nat → Nat → Int64) → Option ((Nat → Nat → Int32))
  | 0, _, _, _, _, _, _ => none
  | n + 1, x1, x2, I, J, A, B =>
    if (I 41) ≤ x2 then
    (some A)
    else
    ck (inB x2 9) <|
    if ((x1 >>> (x2 &&& 31)) &&& (1 : Int32)) = (1 : Int32) then
    (ck (inB ((96 : Int32) + (A 40 (ix x2))) 8047) <|
    gv (va_up A 1 (upd (A 1) (ix ((96 : Int32) + (A 40 (ix x2)))) (4 : Int32))) fun A =>
    gv (x2 + 1) fun x2_67 =>
    lX8_prices_18 n x1 x2_67 I J A B)
    else
    ck (inB x2 9) <|
    ck (inB ((48 : Int32) + (A 40 (ix x2))) 96) <|
    ck (inB ((96 : Int32) + (A 40 (ix x2))) 8047) <|
    gv (va_up A 1 (upd (A 1) (ix ((96 : Int32) + (A 40 (ix x2)))) (A 39 (ix ((48 : Int32) + (A 40 (ix x2))))))) fun A =>
    gv (x2 + 1) fun x2_67 =>
    lX8_prices_18 n x1 x2_67 I J A B
def lX8_prices_6 : Nat → Int32 → (Nat → Int32) → (Nat → Int64) → (Nat → Nat → Int32) → (Nat → Nat → Int64) → Option ((Nat → Int32) × (Nat → Int64) × (Nat → Nat → Int32) × (Nat → Nat → Int64))
  | 0, _, _, _, _, _ => none
  | n + 1, x1, I, J, A, B =>
    if ((1 : Int32) <<< ((I 41) &&& 31)) ≤ x1 then
    (some (I, J, A, B))
    else
    (lX8_prices_18 FU x1 (0 : Int32) I J A B).bind fun A =>
    (sX8_year  I J A B).bind fun (r_79, I, J, A, B) =>
    ck (inB x1 512) <|
    gv (va_up B 42 (vp_updL (B 42) (ix x1) r_79)) fun B =>
    gv (x1 + 1) fun x1_83 =>
    lX8_prices_6 n x1_83 I J A B
def sX8_prices (I : Nat → Int32) (J : Nat → Int64) (A : Nat → Nat → Int32) (B : Nat → Nat → Int64) : Option ((Nat → Int32) × (Nat → Int64) × (Nat → Nat → Int32) × (Nat → Nat → Int64)) :=
(sX8_saves  I J A B).bind fun A =>
(lX8_prices_6 FU (0 : Int32) I J A B).bind fun (I, J, A, B) =>
(sX8_restores  I J A B).bind fun A =>
some (I, J, A, B)
set_option maxRecDepth 100000 in
set_option maxHeartbeats 8000000 in
theorem kX8_prices (l : Launch) (D : va_G) (cy : Nat → ClassId) (q : Nat → Nat) (I : Nat → Int32) (J : Nat → Int64) (A : Nat → Nat → Int32) (B : Nat → Nat → Int64) (I2 : Nat → Int32) (J2 : Nat → Int64) (A2 : Nat → Nat → Int32) (B2 : Nat → Nat → Int64) (hs : sX8_prices I J A B = some (I2, J2, A2, B2)) : McI l yX8_prices cX8_prices 3 none 6 [.ref (q 46)] D cy q I J A B none I2 J2 A2 B2 := by
  refine M_start rfl rfl (Nat.le_of_ble_eq_true rfl) ?_
  intro p e s m args below meth c H locs C hI ls hl
  have hl : lv_has ls 3 [(0, .ref (q 46))] := hl
  rw [sX8_prices] at hs
  refine lv_aload_n C.1 C.2.1 dX8_prices_0 rfl (lv_at hl 0 rfl) ?_
  obtain ⟨A, hc, hs⟩ := bd_e hs
  refine M_call C hI (kX8_saves l D cy q _ _ _ _ _ hc) ml_X8_322 im_X8_saves se_X8_saves ini_X8 co_X8_saves hyX8_saves rfl ⟨by decide, by decide⟩ hl.1 rfl (Nat.le_of_ble_eq_true rfl) dX8_prices_1 (fun H locs hI => ?_)
  refine lv_iconst (v := 0) C.1 C.2.1 dX8_prices_4 (by decide) ?_
  refine lv_istore_n (lv' := [(1, .int (0 : Int32)), (0, .ref (q 46))]) C.1 C.2.1 dX8_prices_5 rfl hl (by decide) rfl (fun ls hl => ?_)
  have KL_6 : ∀ (n : Nat) (x1 : Int32) (I : Nat → Int32) (J : Nat → Int64) (A : Nat → Nat → Int32) (B : Nat → Nat → Int64) (o : (Nat → Int32) × (Nat → Int64) × (Nat → Nat → Int32) × (Nat → Nat → Int64)) (Q : State → Prop) (H : Heap) (locs : List Loc) (ls : Array Slot), lX8_prices_6 n x1 I J A B = some o → MI D cy s s.heap H locs q I J A B → lv_has ls 3 [(0, .ref (q 46)), (1, .int x1)] → (∀ (I_0 : Nat → Int32) (J_0 : Nat → Int64) (A_0 : Nat → Nat → Int32) (B_0 : Nat → Nat → Int64) (H : Heap) (locs : List Loc) (ls : Array Slot), o = (I_0, J_0, A_0, B_0) → MI D cy s s.heap H locs q I_0 J_0 A_0 B_0 → lv_has ls 3 [(0, .ref (q 46))] → W p l e (rmL 6) s m args below meth c H locs 0 0 Q (F0 m 89 ls [])) → W p l e (rmL 6) s m args below meth c H locs 0 0 Q (F0 m 6 ls []) := by
    intro n; induction n with
    | zero => intro x1 I J A B o Q H locs ls hs; rw [lX8_prices_6] at hs; cases hs
    | succ n ih =>
      intro x1 I J A B o Q H locs ls hs hI hl kk0
      rw [lX8_prices_6] at hs
      refine lv_iload_n C.1 C.2.1 dX8_prices_6 rfl (lv_at hl 1 rfl) ?_
      refine lv_iconst (v := 1) C.1 C.2.1 dX8_prices_7 (by decide) ?_
      refine lv_aload_n C.1 C.2.1 dX8_prices_8 rfl (lv_at hl 0 rfl) ?_
      refine mg_41 C hI dX8_prices_9 ?_
      refine lv_ishl C.1 C.2.1 dX8_prices_12 ?_
      refine lv_icmp_ge (tgt := 89) C.1 C.2.1 dX8_prices_13 (by decide) (fun cn => ?_) (fun cn => ?_)
      · have hs := if_t cn hs
        have eo := (Option.some.inj hs).symm
        exact kk0 _ _ _ _ _ _ _ eo hI (lv_sub hl [0] rfl)
      · have hs := if_f cn hs
        refine lv_iconst (v := 0) C.1 C.2.1 dX8_prices_16 (by decide) ?_
        refine lv_istore_n (lv' := [(2, .int (0 : Int32)), (0, .ref (q 46)), (1, .int x1)]) C.1 C.2.1 dX8_prices_17 rfl hl (by decide) rfl (fun ls hl => ?_)
        have KL_18 : ∀ (n : Nat) (x1 : Int32) (x2 : Int32) (I : Nat → Int32) (J : Nat → Int64) (A : Nat → Nat → Int32) (B : Nat → Nat → Int64) (o : (Nat → Nat → Int32)) (Q : State → Prop) (H : Heap) (locs : List Loc) (ls : Array Slot), lX8_prices_18 n x1 x2 I J A B = some o → MI D cy s s.heap H locs q I J A B → lv_has ls 3 [(0, .ref (q 46)), (1, .int x1), (2, .int x2)] → (∀ (A_0 : Nat → Nat → Int32) (H : Heap) (locs : List Loc) (ls : Array Slot), o = A_0 → MI D cy s s.heap H locs q I J A_0 B → lv_has ls 3 [(0, .ref (q 46)), (1, .int x1)] → W p l e (rmL 6) s m args below meth c H locs 0 0 Q (F0 m 73 ls [])) → W p l e (rmL 6) s m args below meth c H locs 0 0 Q (F0 m 18 ls []) := by
          intro n; induction n with
          | zero => intro x1 x2 I J A B o Q H locs ls hs; rw [lX8_prices_18] at hs; cases hs
          | succ n ih =>
            intro x1 x2 I J A B o Q H locs ls hs hI hl kk0
            rw [lX8_prices_18] at hs
            refine lv_iload_n C.1 C.2.1 dX8_prices_18 rfl (lv_at hl 2 rfl) ?_
            refine lv_aload_n C.1 C.2.1 dX8_prices_19 rfl (lv_at hl 0 rfl) ?_
            refine mg_41 C hI dX8_prices_20 ?_
            refine lv_icmp_ge (tgt := 73) C.1 C.2.1 dX8_prices_23 (by decide) (fun cn => ?_) (fun cn => ?_)
            · have hs := if_t cn hs
              have eo := (Option.some.inj hs).symm
              exact kk0 _ _ _ _ eo hI (lv_sub hl [0, 1] rfl)
            · have hs := if_f cn hs
              refine lv_aload_n C.1 C.2.1 dX8_prices_26 rfl (lv_at hl 0 rfl) ?_
              refine mg_1 C hI dX8_prices_27 ?_
              refine lv_bipush (v := 96) C.1 C.2.1 dX8_prices_30 (by decide) ?_
              refine lv_aload_n C.1 C.2.1 dX8_prices_32 rfl (lv_at hl 0 rfl) ?_
              refine mg_40 C hI dX8_prices_33 ?_
              refine lv_iload_n C.1 C.2.1 dX8_prices_36 rfl (lv_at hl 2 rfl) ?_
              obtain ⟨hk, hs⟩ := ck_e hs
              refine ma_40 C hI hk dX8_prices_37 ?_
              refine lv_iadd C.1 C.2.1 dX8_prices_38 ?_
              refine lv_iload_n C.1 C.2.1 dX8_prices_39 rfl (lv_at hl 1 rfl) ?_
              refine lv_iload_n C.1 C.2.1 dX8_prices_40 rfl (lv_at hl 2 rfl) ?_
              refine lv_ishr C.1 C.2.1 dX8_prices_41 ?_
              refine lv_iconst (v := 1) C.1 C.2.1 dX8_prices_42 (by decide) ?_
              refine lv_iand C.1 C.2.1 dX8_prices_43 ?_
              refine lv_iconst (v := 1) C.1 C.2.1 dX8_prices_44 (by decide) ?_
              refine lv_icmp_ne (tgt := 52) C.1 C.2.1 dX8_prices_45 (by decide) (fun cn => ?_) (fun cn => ?_)
              · have hs := if_f cn hs
                refine lv_aload_n C.1 C.2.1 dX8_prices_52 rfl (lv_at hl 0 rfl) ?_
                refine mg_39 C hI dX8_prices_53 ?_
                refine lv_bipush (v := 48) C.1 C.2.1 dX8_prices_56 (by decide) ?_
                refine lv_aload_n C.1 C.2.1 dX8_prices_58 rfl (lv_at hl 0 rfl) ?_
                refine mg_40 C hI dX8_prices_59 ?_
                refine lv_iload_n C.1 C.2.1 dX8_prices_62 rfl (lv_at hl 2 rfl) ?_
                obtain ⟨hk, hs⟩ := ck_e hs
                refine ma_40 C hI hk dX8_prices_63 ?_
                refine lv_iadd C.1 C.2.1 dX8_prices_64 ?_
                obtain ⟨hk, hs⟩ := ck_e hs
                refine ma_39 C hI hk dX8_prices_65 ?_
                obtain ⟨hk, hs⟩ := ck_e hs
                refine ms_1 C hI hk dX8_prices_66 (fun H locs hI => ?_)
                have hs := gv_be hs
                obtain ⟨x2_67, ex2_67⟩ : ∃ y : Int32, y = (x2 + 1) := ⟨_, rfl⟩
                have hs := gv_at ex2_67 hs
                refine lv_iinc (v := x2_67) (lv' := [(2, .int x2_67), (0, .ref (q 46)), (1, .int x1)]) C.1 C.2.1 dX8_prices_67 hl (k := 2) rfl (by rw [ex2_67]; rfl) (by decide) rfl (fun ls hl => ?_)
                refine lv_goto (tgt := 18) C.1 C.2.1 dX8_prices_70 (by decide) ?_
                exact ih _ _ _ _ _ _ _ _ _ _ _ hs hI (lv_sub hl [1, 2, 0] rfl) kk0
              · have hs := if_t cn hs
                refine lv_iconst (v := 4) C.1 C.2.1 dX8_prices_48 (by decide) ?_
                refine lv_goto (tgt := 66) C.1 C.2.1 dX8_prices_49 (by decide) ?_
                obtain ⟨hk, hs⟩ := ck_e hs
                refine ms_1 C hI hk dX8_prices_66 (fun H locs hI => ?_)
                have hs := gv_be hs
                obtain ⟨x2_67, ex2_67⟩ : ∃ y : Int32, y = (x2 + 1) := ⟨_, rfl⟩
                have hs := gv_at ex2_67 hs
                refine lv_iinc (v := x2_67) (lv' := [(2, .int x2_67), (0, .ref (q 46)), (1, .int x1)]) C.1 C.2.1 dX8_prices_67 hl (k := 2) rfl (by rw [ex2_67]; rfl) (by decide) rfl (fun ls hl => ?_)
                refine lv_goto (tgt := 18) C.1 C.2.1 dX8_prices_70 (by decide) ?_
                exact ih _ _ _ _ _ _ _ _ _ _ _ hs hI (lv_sub hl [1, 2, 0] rfl) kk0
        obtain ⟨A_L, hL, hs⟩ := bd_e hs
        refine KL_18 FU _ _ _ _ _ _ _ _ _ _ _ hL hI (lv_sub hl [1, 2, 0] rfl) (fun z0 H locs ls eo hI hl => ?_)
        subst eo
        refine lv_aload_n C.1 C.2.1 dX8_prices_73 rfl (lv_at hl 0 rfl) ?_
        refine mg_42 C hI dX8_prices_74 ?_
        refine lv_iload_n C.1 C.2.1 dX8_prices_77 rfl (lv_at hl 1 rfl) ?_
        refine lv_aload_n C.1 C.2.1 dX8_prices_78 rfl (lv_at hl 0 rfl) ?_
        obtain ⟨⟨r_79, I, J, A, B⟩, hc, hs⟩ := bd_e hs
        refine M_call C hI (kX8_year l D cy q _ _ _ _ _ _ _ _ _ hc) ml_X8_341 im_X8_year se_X8_year ini_X8 co_X8_year hyX8_year rfl ⟨by decide, by decide⟩ hl.1 rfl (Nat.le_of_ble_eq_true rfl) dX8_prices_79 (fun H locs hI => ?_)
        obtain ⟨hk, hs⟩ := ck_e hs
        refine ms_42 C hI hk dX8_prices_82 (fun H locs hI => ?_)
        have hs := gv_be hs
        obtain ⟨x1_83, ex1_83⟩ : ∃ y : Int32, y = (x1 + 1) := ⟨_, rfl⟩
        have hs := gv_at ex1_83 hs
        refine lv_iinc (v := x1_83) (lv' := [(1, .int x1_83), (0, .ref (q 46))]) C.1 C.2.1 dX8_prices_83 hl (k := 1) rfl (by rw [ex1_83]; rfl) (by decide) rfl (fun ls hl => ?_)
        refine lv_goto (tgt := 6) C.1 C.2.1 dX8_prices_86 (by decide) ?_
        exact ih _ _ _ _ _ _ _ _ _ _ hs hI (lv_sub hl [1, 0] rfl) kk0
  obtain ⟨⟨I_L, J_L, A_L, B_L⟩, hL, hs⟩ := bd_e hs
  refine KL_6 FU _ _ _ _ _ _ _ _ _ _ hL hI (lv_sub hl [1, 0] rfl) (fun z0 z1 z2 z3 H locs ls eo hI hl => ?_)
  obtain ⟨rfl, rfl, rfl, rfl⟩ := pr4 eo
  refine lv_aload_n C.1 C.2.1 dX8_prices_89 rfl (lv_at hl 0 rfl) ?_
  obtain ⟨A, hc, hs⟩ := bd_e hs
  refine M_call C hI (kX8_restores l D cy q _ _ _ _ _ hc) ml_X8_328 im_X8_restores se_X8_restores ini_X8 co_X8_restores hyX8_restores rfl ⟨by decide, by decide⟩ hl.1 rfl (Nat.le_of_ble_eq_true rfl) dX8_prices_90 (fun H locs hI => ?_)
  obtain ⟨rfl, rfl, rfl, rfl⟩ := so4 hs
  exact M_vret C hI dX8_prices_93

def lX8_best_46 : Nat → Int32 → Int64 → Int32 → (Nat → Int32) → (Nat → Int64) → (Nat → Nat → Int32) → (Nat → Nat → Int64) → Option (Int64)
  | 0, _, _, _, _, _, _, _ => none
  | n + 1, x2, x3, x5, I, J, A, B =>
    if (I 41) ≤ x5 then
    (some x3)
    else
    if ((x2 >>> (x5 &&& 31)) &&& (1 : Int32)) = (1 : Int32) then
    (gv (x5 + 1) fun x5_97 =>
    lX8_best_46 n x2 x3 x5_97 I J A B)
    else
    ck (inB (x2 ||| ((1 : Int32) <<< (x5 &&& 31))) 512) <|
    gv (B 43 (ix (x2 ||| ((1 : Int32) <<< (x5 &&& 31))))) fun x6_79 =>
    if (lg_cmp x3 (0 : Int64)) < 0 then
    (gv (x5 + 1) fun x5_97 =>
    lX8_best_46 n x2 x6_79 x5_97 I J A B)
    else
    if 0 ≤ (lg_cmp x6_79 x3) then
    (gv (x5 + 1) fun x5_97 =>
    lX8_best_46 n x2 x3 x5_97 I J A B)
    else
    gv (x5 + 1) fun x5_97 =>
    lX8_best_46 n x2 x6_79 x5_97 I J A B
def lX8_best_35 : Nat → Int32 → (Nat → Int32) → (Nat → Int64) → (Nat → Nat → Int32) → (Nat → Nat → Int64) → Option ((Nat → Nat → Int64))
  | 0, _, _, _, _, _ => none
  | n + 1, x2, I, J, A, B =>
    if x2 < 0 then
    (some B)
    else
    (lX8_best_46 FU x2 (-1 : Int64) (0 : Int32) I J A B).bind fun x3_46 =>
    ck (inB x2 512) <|
    ck (inB x2 512) <|
    gv (va_up B 43 (vp_updL (B 43) (ix x2) ((B 42 (ix x2)) + x3_46))) fun B =>
    gv (x2 + (-1)) fun x2_117 =>
    lX8_best_35 n x2_117 I J A B
def lX8_best_146 : Nat → Int32 → Int32 → Int32 → (Nat → Int32) → (Nat → Int64) → (Nat → Nat → Int32) → (Nat → Nat → Int64) → Option (Int32)
  | 0, _, _, _, _, _, _, _ => none
  | n + 1, x2, x3, x4, I, J, A, B =>
    if ((x2 >>> (x4 &&& 31)) &&& (1 : Int32)) = (1 : Int32) then
    (gv (x4 + 1) fun x4_184 =>
    lX8_best_146 n x2 x3 x4_184 I J A B)
    else
    ck (inB (x2 ||| ((1 : Int32) <<< (x4 &&& 31))) 512) <|
    ck (inB x2 512) <|
    ck (inB x2 512) <|
    if (lg_cmp (B 43 (ix (x2 ||| ((1 : Int32) <<< (x4 &&& 31))))) ((B 43 (ix x2)) - (B 42 (ix x2)))) = 0 then
    (some x4)
    else
    gv (x4 + 1) fun x4_184 =>
    lX8_best_146 n x2 x3 x4_184 I J A B
def lX8_best_135 : Nat → Int32 → Int32 → (Nat → Int32) → (Nat → Int64) → (Nat → Nat → Int32) → (Nat → Nat → Int64) → Option ((Nat → Nat → Int32))
  | 0, _, _, _, _, _, _ => none
  | n + 1, x2, x3, I, J, A, B =>
    if (I 41) ≤ x3 then
    (some A)
    else
    (lX8_best_146 FU x2 x3 (0 : Int32) I J A B).bind fun x4_146 =>
    ck (inB x3 9) <|
    gv (va_up A 44 (upd (A 44) (ix x3) x4_146)) fun A =>
    gv (x2 ||| ((1 : Int32) <<< (x4_146 &&& 31))) fun x2_204 =>
    gv (x3 + 1) fun x3_205 =>
    lX8_best_135 n x2_204 x3_205 I J A B
def sX8_best (I : Nat → Int32) (J : Nat → Int64) (A : Nat → Nat → Int32) (B : Nat → Nat → Int64) : Option ((Int64) × (Nat → Int32) × (Nat → Int64) × (Nat → Nat → Int32) × (Nat → Nat → Int64)) :=
(sX8_canMend  I J A B).bind fun r_1 =>
if r_1 = 0 then
(some ((-1 : Int64), I, J, A, B))
else
(sX8_prices  I J A B).bind fun (I, J, A, B) =>
gv (((1 : Int32) <<< ((I 41) &&& 31)) - (1 : Int32)) fun x1_23 =>
ck (inB x1_23 512) <|
gv (va_up B 43 (vp_updL (B 43) (ix x1_23) (0 : Int64))) fun B =>
gv (x1_23 - (1 : Int32)) fun x2_34 =>
(lX8_best_35 FU x2_34 I J A B).bind fun B =>
gv (upd I 45 (I 41)) fun I =>
(lX8_best_135 FU (0 : Int32) (0 : Int32) I J A B).bind fun A =>
some ((B 43 (ix (0 : Int32))), I, J, A, B)
set_option maxRecDepth 100000 in
set_option maxHeartbeats 8000000 in
theorem kX8_best (l : Launch) (D : va_G) (cy : Nat → ClassId) (q : Nat → Nat) (I : Nat → Int32) (J : Nat → Int64) (A : Nat → Nat → Int32) (B : Nat → Nat → Int64) (r : Int64) (I2 : Nat → Int32) (J2 : Nat → Int64) (A2 : Nat → Nat → Int32) (B2 : Nat → Nat → Int64) (hs : sX8_best I J A B = some (r, I2, J2, A2, B2)) : McI l yX8_best cX8_best 8 (some .long) 7 [.ref (q 46)] D cy q I J A B (some (.long r)) I2 J2 A2 B2 := by
  refine M_start rfl rfl (Nat.le_of_ble_eq_true rfl) ?_
  intro p e s m args below meth c H locs C hI ls hl
  have hl : lv_has ls 8 [(0, .ref (q 46))] := hl
  rw [sX8_best] at hs
  refine lv_aload_n C.1 C.2.1 dX8_best_0 rfl (lv_at hl 0 rfl) ?_
  obtain ⟨r_1, hc, hs⟩ := bd_e hs
  refine M_call C hI (kX8_canMend l D cy q _ _ _ _ _ hc) ml_X8_345 im_X8_canMend se_X8_canMend ini_X8 co_X8_canMend hyX8_canMend rfl ⟨by decide, by decide⟩ hl.1 rfl (Nat.le_of_ble_eq_true rfl) dX8_best_1 (fun H locs hI => ?_)
  refine lv_if_ne (tgt := 11) C.1 C.2.1 dX8_best_4 (by decide) (fun cn => ?_) (fun cn => ?_)
  · have hs := if_f cn hs
    refine lv_aload_n C.1 C.2.1 dX8_best_11 rfl (lv_at hl 0 rfl) ?_
    obtain ⟨⟨I, J, A, B⟩, hc, hs⟩ := bd_e hs
    refine M_call C hI (kX8_prices l D cy q _ _ _ _ _ _ _ _ hc) ml_X8_350 im_X8_prices se_X8_prices ini_X8 co_X8_prices hyX8_prices rfl ⟨by decide, by decide⟩ hl.1 rfl (Nat.le_of_ble_eq_true rfl) dX8_best_12 (fun H locs hI => ?_)
    refine lv_iconst (v := 1) C.1 C.2.1 dX8_best_15 (by decide) ?_
    refine lv_aload_n C.1 C.2.1 dX8_best_16 rfl (lv_at hl 0 rfl) ?_
    refine mg_41 C hI dX8_best_17 ?_
    refine lv_ishl C.1 C.2.1 dX8_best_20 ?_
    refine lv_iconst (v := 1) C.1 C.2.1 dX8_best_21 (by decide) ?_
    refine lv_isub C.1 C.2.1 dX8_best_22 ?_
    refine lv_topi (fun x1_23 ex1_23 => ?_)
    have hs := gv_at ex1_23 hs
    refine lv_istore_n (lv' := [(1, .int x1_23), (0, .ref (q 46))]) C.1 C.2.1 dX8_best_23 rfl hl (by decide) rfl (fun ls hl => ?_)
    refine lv_aload_n C.1 C.2.1 dX8_best_24 rfl (lv_at hl 1 rfl) ?_
    refine mg_43 C hI dX8_best_25 ?_
    refine lv_iload_n C.1 C.2.1 dX8_best_28 rfl (lv_at hl 0 rfl) ?_
    refine lv_lconst (v := 0) C.1 C.2.1 dX8_best_29 (by decide) ?_
    obtain ⟨hk, hs⟩ := ck_e hs
    refine ms_43 C hI hk dX8_best_30 (fun H locs hI => ?_)
    have hs := gv_be hs
    refine lv_iload_n C.1 C.2.1 dX8_best_31 rfl (lv_at hl 0 rfl) ?_
    refine lv_iconst (v := 1) C.1 C.2.1 dX8_best_32 (by decide) ?_
    refine lv_isub C.1 C.2.1 dX8_best_33 ?_
    refine lv_topi (fun x2_34 ex2_34 => ?_)
    have hs := gv_at ex2_34 hs
    refine lv_istore_n (lv' := [(2, .int x2_34), (1, .int x1_23), (0, .ref (q 46))]) C.1 C.2.1 dX8_best_34 rfl hl (by decide) rfl (fun ls hl => ?_)
    have KL_35 : ∀ (n : Nat) (x2 : Int32) (I : Nat → Int32) (J : Nat → Int64) (A : Nat → Nat → Int32) (B : Nat → Nat → Int64) (o : (Nat → Nat → Int64)) (Q : State → Prop) (H : Heap) (locs : List Loc) (ls : Array Slot), lX8_best_35 n x2 I J A B = some o → MI D cy s s.heap H locs q I J A B → lv_has ls 8 [(0, .ref (q 46)), (2, .int x2)] → (∀ (B_0 : Nat → Nat → Int64) (H : Heap) (locs : List Loc) (ls : Array Slot), o = B_0 → MI D cy s s.heap H locs q I J A B_0 → lv_has ls 8 [(0, .ref (q 46))] → W p l e (rmL 7) s m args below meth c H locs 0 0 Q (F0 m 123 ls [])) → W p l e (rmL 7) s m args below meth c H locs 0 0 Q (F0 m 35 ls []) := by
      intro n; induction n with
      | zero => intro x2 I J A B o Q H locs ls hs; rw [lX8_best_35] at hs; cases hs
      | succ n ih =>
        intro x2 I J A B o Q H locs ls hs hI hl kk0
        rw [lX8_best_35] at hs
        refine lv_iload_n C.1 C.2.1 dX8_best_35 rfl (lv_at hl 1 rfl) ?_
        refine lv_if_lt (tgt := 123) C.1 C.2.1 dX8_best_36 (by decide) (fun cn => ?_) (fun cn => ?_)
        · have hs := if_t cn hs
          have eo := (Option.some.inj hs).symm
          exact kk0 _ _ _ _ eo hI (lv_sub hl [0] rfl)
        · have hs := if_f cn hs
          refine lv_ldc2 C.1 C.2.1 C.2.2.2.1 (C.2.2.2.2.1 _ kl_X8_348) dX8_best_39 ?_
          refine lv_lstore_n (lv' := [(3, .long (-1 : Int64)), (0, .ref (q 46)), (2, .int x2)]) C.1 C.2.1 dX8_best_42 rfl hl (by decide) rfl (fun ls hl => ?_)
          refine lv_iconst (v := 0) C.1 C.2.1 dX8_best_43 (by decide) ?_
          refine lv_istore (lv' := [(5, .int (0 : Int32)), (3, .long (-1 : Int64)), (0, .ref (q 46)), (2, .int x2)]) C.1 C.2.1 dX8_best_44 hl (by decide) rfl (fun ls hl => ?_)
          have KL_46 : ∀ (n : Nat) (x2 : Int32) (x3 : Int64) (x5 : Int32) (I : Nat → Int32) (J : Nat → Int64) (A : Nat → Nat → Int32) (B : Nat → Nat → Int64) (o : Int64) (Q : State → Prop) (H : Heap) (locs : List Loc) (ls : Array Slot), lX8_best_46 n x2 x3 x5 I J A B = some o → MI D cy s s.heap H locs q I J A B → lv_has ls 8 [(0, .ref (q 46)), (2, .int x2), (3, .long x3), (5, .int x5)] → (∀ (o3_0 : Int64) (H : Heap) (locs : List Loc) (ls : Array Slot), o = o3_0 → MI D cy s s.heap H locs q I J A B → lv_has ls 8 [(0, .ref (q 46)), (2, .int x2), (3, .long o3_0)] → W p l e (rmL 7) s m args below meth c H locs 0 0 Q (F0 m 103 ls [])) → W p l e (rmL 7) s m args below meth c H locs 0 0 Q (F0 m 46 ls []) := by
            intro n; induction n with
            | zero => intro x2 x3 x5 I J A B o Q H locs ls hs; rw [lX8_best_46] at hs; cases hs
            | succ n ih =>
              intro x2 x3 x5 I J A B o Q H locs ls hs hI hl kk0
              rw [lX8_best_46] at hs
              refine lv_iload C.1 C.2.1 dX8_best_46 (lv_at hl 3 rfl) ?_
              refine lv_aload_n C.1 C.2.1 dX8_best_48 rfl (lv_at hl 0 rfl) ?_
              refine mg_41 C hI dX8_best_49 ?_
              refine lv_icmp_ge (tgt := 103) C.1 C.2.1 dX8_best_52 (by decide) (fun cn => ?_) (fun cn => ?_)
              · have hs := if_t cn hs
                have eo := (Option.some.inj hs).symm
                exact kk0 _ _ _ _ eo hI (lv_sub hl [0, 1, 2] rfl)
              · have hs := if_f cn hs
                refine lv_iload_n C.1 C.2.1 dX8_best_55 rfl (lv_at hl 1 rfl) ?_
                refine lv_iload C.1 C.2.1 dX8_best_56 (lv_at hl 3 rfl) ?_
                refine lv_ishr C.1 C.2.1 dX8_best_58 ?_
                refine lv_iconst (v := 1) C.1 C.2.1 dX8_best_59 (by decide) ?_
                refine lv_iand C.1 C.2.1 dX8_best_60 ?_
                refine lv_iconst (v := 1) C.1 C.2.1 dX8_best_61 (by decide) ?_
                refine lv_icmp_ne (tgt := 68) C.1 C.2.1 dX8_best_62 (by decide) (fun cn => ?_) (fun cn => ?_)
                · have hs := if_f cn hs
                  refine lv_aload_n C.1 C.2.1 dX8_best_68 rfl (lv_at hl 0 rfl) ?_
                  refine mg_43 C hI dX8_best_69 ?_
                  refine lv_iload_n C.1 C.2.1 dX8_best_72 rfl (lv_at hl 1 rfl) ?_
                  refine lv_iconst (v := 1) C.1 C.2.1 dX8_best_73 (by decide) ?_
                  refine lv_iload C.1 C.2.1 dX8_best_74 (lv_at hl 3 rfl) ?_
                  refine lv_ishl C.1 C.2.1 dX8_best_76 ?_
                  refine lv_ior C.1 C.2.1 dX8_best_77 ?_
                  obtain ⟨hk, hs⟩ := ck_e hs
                  refine ma_43 C hI hk dX8_best_78 ?_
                  refine lv_topl (fun x6_79 ex6_79 => ?_)
                  have hs := gv_at ex6_79 hs
                  refine lv_lstore (lv' := [(6, .long x6_79), (0, .ref (q 46)), (2, .int x2), (3, .long x3), (5, .int x5)]) C.1 C.2.1 dX8_best_79 hl (by decide) rfl (fun ls hl => ?_)
                  refine lv_lload_n C.1 C.2.1 dX8_best_81 rfl (lv_at hl 3 rfl) ?_
                  refine lv_lconst (v := 0) C.1 C.2.1 dX8_best_82 (by decide) ?_
                  refine W.lcmp C.1 C.2.1 dX8_best_83 ?_
                  refine lv_if_lt (tgt := 94) C.1 C.2.1 dX8_best_84 (by decide) (fun cn => ?_) (fun cn => ?_)
                  · have hs := if_t cn hs
                    refine lv_lload C.1 C.2.1 dX8_best_94 (lv_at hl 0 rfl) ?_
                    refine lv_lstore_n (lv' := [(3, .long x6_79), (6, .long x6_79), (0, .ref (q 46)), (2, .int x2), (5, .int x5)]) C.1 C.2.1 dX8_best_96 rfl hl (by decide) rfl (fun ls hl => ?_)
                    obtain ⟨x5_97, ex5_97⟩ : ∃ y : Int32, y = (x5 + 1) := ⟨_, rfl⟩
                    have hs := gv_at ex5_97 hs
                    refine lv_iinc (v := x5_97) (lv' := [(5, .int x5_97), (3, .long x6_79), (6, .long x6_79), (0, .ref (q 46)), (2, .int x2)]) C.1 C.2.1 dX8_best_97 hl (k := 4) rfl (by rw [ex5_97]; rfl) (by decide) rfl (fun ls hl => ?_)
                    refine lv_goto (tgt := 46) C.1 C.2.1 dX8_best_100 (by decide) ?_
                    exact ih _ _ _ _ _ _ _ _ _ _ _ _ hs hI (lv_sub hl [3, 4, 1, 0] rfl) kk0
                  · have hs := if_f cn hs
                    refine lv_lload C.1 C.2.1 dX8_best_87 (lv_at hl 0 rfl) ?_
                    refine lv_lload_n C.1 C.2.1 dX8_best_89 rfl (lv_at hl 3 rfl) ?_
                    refine W.lcmp C.1 C.2.1 dX8_best_90 ?_
                    refine lv_if_ge (tgt := 97) C.1 C.2.1 dX8_best_91 (by decide) (fun cn => ?_) (fun cn => ?_)
                    · have hs := if_t cn hs
                      obtain ⟨x5_97, ex5_97⟩ : ∃ y : Int32, y = (x5 + 1) := ⟨_, rfl⟩
                      have hs := gv_at ex5_97 hs
                      refine lv_iinc (v := x5_97) (lv' := [(5, .int x5_97), (6, .long x6_79), (0, .ref (q 46)), (2, .int x2), (3, .long x3)]) C.1 C.2.1 dX8_best_97 hl (k := 4) rfl (by rw [ex5_97]; rfl) (by decide) rfl (fun ls hl => ?_)
                      refine lv_goto (tgt := 46) C.1 C.2.1 dX8_best_100 (by decide) ?_
                      exact ih _ _ _ _ _ _ _ _ _ _ _ _ hs hI (lv_sub hl [2, 3, 4, 0] rfl) kk0
                    · have hs := if_f cn hs
                      refine lv_lload C.1 C.2.1 dX8_best_94 (lv_at hl 0 rfl) ?_
                      refine lv_lstore_n (lv' := [(3, .long x6_79), (6, .long x6_79), (0, .ref (q 46)), (2, .int x2), (5, .int x5)]) C.1 C.2.1 dX8_best_96 rfl hl (by decide) rfl (fun ls hl => ?_)
                      obtain ⟨x5_97, ex5_97⟩ : ∃ y : Int32, y = (x5 + 1) := ⟨_, rfl⟩
                      have hs := gv_at ex5_97 hs
                      refine lv_iinc (v := x5_97) (lv' := [(5, .int x5_97), (3, .long x6_79), (6, .long x6_79), (0, .ref (q 46)), (2, .int x2)]) C.1 C.2.1 dX8_best_97 hl (k := 4) rfl (by rw [ex5_97]; rfl) (by decide) rfl (fun ls hl => ?_)
                      refine lv_goto (tgt := 46) C.1 C.2.1 dX8_best_100 (by decide) ?_
                      exact ih _ _ _ _ _ _ _ _ _ _ _ _ hs hI (lv_sub hl [3, 4, 1, 0] rfl) kk0
                · have hs := if_t cn hs
                  refine lv_goto (tgt := 97) C.1 C.2.1 dX8_best_65 (by decide) ?_
                  obtain ⟨x5_97, ex5_97⟩ : ∃ y : Int32, y = (x5 + 1) := ⟨_, rfl⟩
                  have hs := gv_at ex5_97 hs
                  refine lv_iinc (v := x5_97) (lv' := [(5, .int x5_97), (0, .ref (q 46)), (2, .int x2), (3, .long x3)]) C.1 C.2.1 dX8_best_97 hl (k := 3) rfl (by rw [ex5_97]; rfl) (by decide) rfl (fun ls hl => ?_)
                  refine lv_goto (tgt := 46) C.1 C.2.1 dX8_best_100 (by decide) ?_
                  exact ih _ _ _ _ _ _ _ _ _ _ _ _ hs hI (lv_sub hl [1, 2, 3, 0] rfl) kk0
          obtain ⟨x3_46, hL, hs⟩ := bd_e hs
          refine KL_46 FU _ _ _ _ _ _ _ _ _ _ _ _ hL hI (lv_sub hl [2, 3, 1, 0] rfl) (fun z0 H locs ls eo hI hl => ?_)
          subst eo
          refine lv_aload_n C.1 C.2.1 dX8_best_103 rfl (lv_at hl 0 rfl) ?_
          refine mg_43 C hI dX8_best_104 ?_
          refine lv_iload_n C.1 C.2.1 dX8_best_107 rfl (lv_at hl 1 rfl) ?_
          refine lv_aload_n C.1 C.2.1 dX8_best_108 rfl (lv_at hl 0 rfl) ?_
          refine mg_42 C hI dX8_best_109 ?_
          refine lv_iload_n C.1 C.2.1 dX8_best_112 rfl (lv_at hl 1 rfl) ?_
          obtain ⟨hk, hs⟩ := ck_e hs
          refine ma_42 C hI hk dX8_best_113 ?_
          refine lv_lload_n C.1 C.2.1 dX8_best_114 rfl (lv_at hl 2 rfl) ?_
          refine lv_ladd C.1 C.2.1 dX8_best_115 ?_
          obtain ⟨hk, hs⟩ := ck_e hs
          refine ms_43 C hI hk dX8_best_116 (fun H locs hI => ?_)
          have hs := gv_be hs
          obtain ⟨x2_117, ex2_117⟩ : ∃ y : Int32, y = (x2 + (-1)) := ⟨_, rfl⟩
          have hs := gv_at ex2_117 hs
          refine lv_iinc (v := x2_117) (lv' := [(2, .int x2_117), (0, .ref (q 46)), (3, .long x3_46)]) C.1 C.2.1 dX8_best_117 hl (k := 1) rfl (by rw [ex2_117]; rfl) (by decide) rfl (fun ls hl => ?_)
          refine lv_goto (tgt := 35) C.1 C.2.1 dX8_best_120 (by decide) ?_
          exact ih _ _ _ _ _ _ _ _ _ _ hs hI (lv_sub hl [1, 0] rfl) kk0
    obtain ⟨B_L, hL, hs⟩ := bd_e hs
    refine KL_35 FU _ _ _ _ _ _ _ _ _ _ hL hI (lv_sub hl [2, 0] rfl) (fun z0 H locs ls eo hI hl => ?_)
    subst eo
    refine lv_aload_n C.1 C.2.1 dX8_best_123 rfl (lv_at hl 0 rfl) ?_
    refine lv_aload_n C.1 C.2.1 dX8_best_124 rfl (lv_at hl 0 rfl) ?_
    refine mg_41 C hI dX8_best_125 ?_
    refine mp_45 C hI dX8_best_128 (fun H locs hI => ?_)
    have hs := gv_be hs
    refine lv_iconst (v := 0) C.1 C.2.1 dX8_best_131 (by decide) ?_
    refine lv_istore_n (lv' := [(2, .int (0 : Int32)), (0, .ref (q 46))]) C.1 C.2.1 dX8_best_132 rfl hl (by decide) rfl (fun ls hl => ?_)
    refine lv_iconst (v := 0) C.1 C.2.1 dX8_best_133 (by decide) ?_
    refine lv_istore_n (lv' := [(3, .int (0 : Int32)), (2, .int (0 : Int32)), (0, .ref (q 46))]) C.1 C.2.1 dX8_best_134 rfl hl (by decide) rfl (fun ls hl => ?_)
    have KL_135 : ∀ (n : Nat) (x2 : Int32) (x3 : Int32) (I : Nat → Int32) (J : Nat → Int64) (A : Nat → Nat → Int32) (B : Nat → Nat → Int64) (o : (Nat → Nat → Int32)) (Q : State → Prop) (H : Heap) (locs : List Loc) (ls : Array Slot), lX8_best_135 n x2 x3 I J A B = some o → MI D cy s s.heap H locs q I J A B → lv_has ls 8 [(0, .ref (q 46)), (2, .int x2), (3, .int x3)] → (∀ (A_0 : Nat → Nat → Int32) (H : Heap) (locs : List Loc) (ls : Array Slot), o = A_0 → MI D cy s s.heap H locs q I J A_0 B → lv_has ls 8 [(0, .ref (q 46))] → W p l e (rmL 7) s m args below meth c H locs 0 0 Q (F0 m 211 ls [])) → W p l e (rmL 7) s m args below meth c H locs 0 0 Q (F0 m 135 ls []) := by
      intro n; induction n with
      | zero => intro x2 x3 I J A B o Q H locs ls hs; rw [lX8_best_135] at hs; cases hs
      | succ n ih =>
        intro x2 x3 I J A B o Q H locs ls hs hI hl kk0
        rw [lX8_best_135] at hs
        refine lv_iload_n C.1 C.2.1 dX8_best_135 rfl (lv_at hl 2 rfl) ?_
        refine lv_aload_n C.1 C.2.1 dX8_best_136 rfl (lv_at hl 0 rfl) ?_
        refine mg_41 C hI dX8_best_137 ?_
        refine lv_icmp_ge (tgt := 211) C.1 C.2.1 dX8_best_140 (by decide) (fun cn => ?_) (fun cn => ?_)
        · have hs := if_t cn hs
          have eo := (Option.some.inj hs).symm
          exact kk0 _ _ _ _ eo hI (lv_sub hl [0] rfl)
        · have hs := if_f cn hs
          refine lv_iconst (v := 0) C.1 C.2.1 dX8_best_143 (by decide) ?_
          refine lv_istore (lv' := [(4, .int (0 : Int32)), (0, .ref (q 46)), (2, .int x2), (3, .int x3)]) C.1 C.2.1 dX8_best_144 hl (by decide) rfl (fun ls hl => ?_)
          have KL_146 : ∀ (n : Nat) (x2 : Int32) (x3 : Int32) (x4 : Int32) (I : Nat → Int32) (J : Nat → Int64) (A : Nat → Nat → Int32) (B : Nat → Nat → Int64) (o : Int32) (Q : State → Prop) (H : Heap) (locs : List Loc) (ls : Array Slot), lX8_best_146 n x2 x3 x4 I J A B = some o → MI D cy s s.heap H locs q I J A B → lv_has ls 8 [(0, .ref (q 46)), (2, .int x2), (3, .int x3), (4, .int x4)] → (∀ (o4_0 : Int32) (H : Heap) (locs : List Loc) (ls : Array Slot), o = o4_0 → MI D cy s s.heap H locs q I J A B → lv_has ls 8 [(0, .ref (q 46)), (2, .int x2), (3, .int x3), (4, .int o4_0)] → W p l e (rmL 7) s m args below meth c H locs 0 0 Q (F0 m 190 ls [])) → W p l e (rmL 7) s m args below meth c H locs 0 0 Q (F0 m 146 ls []) := by
            intro n; induction n with
            | zero => intro x2 x3 x4 I J A B o Q H locs ls hs; rw [lX8_best_146] at hs; cases hs
            | succ n ih =>
              intro x2 x3 x4 I J A B o Q H locs ls hs hI hl kk0
              rw [lX8_best_146] at hs
              refine lv_iload_n C.1 C.2.1 dX8_best_146 rfl (lv_at hl 1 rfl) ?_
              refine lv_iload C.1 C.2.1 dX8_best_147 (lv_at hl 3 rfl) ?_
              refine lv_ishr C.1 C.2.1 dX8_best_149 ?_
              refine lv_iconst (v := 1) C.1 C.2.1 dX8_best_150 (by decide) ?_
              refine lv_iand C.1 C.2.1 dX8_best_151 ?_
              refine lv_iconst (v := 1) C.1 C.2.1 dX8_best_152 (by decide) ?_
              refine lv_icmp_eq (tgt := 184) C.1 C.2.1 dX8_best_153 (by decide) (fun cn => ?_) (fun cn => ?_)
              · have hs := if_t cn hs
                obtain ⟨x4_184, ex4_184⟩ : ∃ y : Int32, y = (x4 + 1) := ⟨_, rfl⟩
                have hs := gv_at ex4_184 hs
                refine lv_iinc (v := x4_184) (lv' := [(4, .int x4_184), (0, .ref (q 46)), (2, .int x2), (3, .int x3)]) C.1 C.2.1 dX8_best_184 hl (k := 3) rfl (by rw [ex4_184]; rfl) (by decide) rfl (fun ls hl => ?_)
                refine lv_goto (tgt := 146) C.1 C.2.1 dX8_best_187 (by decide) ?_
                exact ih _ _ _ _ _ _ _ _ _ _ _ _ hs hI (lv_sub hl [1, 2, 3, 0] rfl) kk0
              · have hs := if_f cn hs
                refine lv_aload_n C.1 C.2.1 dX8_best_156 rfl (lv_at hl 0 rfl) ?_
                refine mg_43 C hI dX8_best_157 ?_
                refine lv_iload_n C.1 C.2.1 dX8_best_160 rfl (lv_at hl 1 rfl) ?_
                refine lv_iconst (v := 1) C.1 C.2.1 dX8_best_161 (by decide) ?_
                refine lv_iload C.1 C.2.1 dX8_best_162 (lv_at hl 3 rfl) ?_
                refine lv_ishl C.1 C.2.1 dX8_best_164 ?_
                refine lv_ior C.1 C.2.1 dX8_best_165 ?_
                obtain ⟨hk, hs⟩ := ck_e hs
                refine ma_43 C hI hk dX8_best_166 ?_
                refine lv_aload_n C.1 C.2.1 dX8_best_167 rfl (lv_at hl 0 rfl) ?_
                refine mg_43 C hI dX8_best_168 ?_
                refine lv_iload_n C.1 C.2.1 dX8_best_171 rfl (lv_at hl 1 rfl) ?_
                obtain ⟨hk, hs⟩ := ck_e hs
                refine ma_43 C hI hk dX8_best_172 ?_
                refine lv_aload_n C.1 C.2.1 dX8_best_173 rfl (lv_at hl 0 rfl) ?_
                refine mg_42 C hI dX8_best_174 ?_
                refine lv_iload_n C.1 C.2.1 dX8_best_177 rfl (lv_at hl 1 rfl) ?_
                obtain ⟨hk, hs⟩ := ck_e hs
                refine ma_42 C hI hk dX8_best_178 ?_
                refine lv_lsub C.1 C.2.1 dX8_best_179 ?_
                refine W.lcmp C.1 C.2.1 dX8_best_180 ?_
                refine lv_if_eq (tgt := 190) C.1 C.2.1 dX8_best_181 (by decide) (fun cn => ?_) (fun cn => ?_)
                · have hs := if_t cn hs
                  have eo := (Option.some.inj hs).symm
                  exact kk0 _ _ _ _ eo hI (lv_sub hl [0, 1, 2, 3] rfl)
                · have hs := if_f cn hs
                  obtain ⟨x4_184, ex4_184⟩ : ∃ y : Int32, y = (x4 + 1) := ⟨_, rfl⟩
                  have hs := gv_at ex4_184 hs
                  refine lv_iinc (v := x4_184) (lv' := [(4, .int x4_184), (0, .ref (q 46)), (2, .int x2), (3, .int x3)]) C.1 C.2.1 dX8_best_184 hl (k := 3) rfl (by rw [ex4_184]; rfl) (by decide) rfl (fun ls hl => ?_)
                  refine lv_goto (tgt := 146) C.1 C.2.1 dX8_best_187 (by decide) ?_
                  exact ih _ _ _ _ _ _ _ _ _ _ _ _ hs hI (lv_sub hl [1, 2, 3, 0] rfl) kk0
          obtain ⟨x4_146, hL, hs⟩ := bd_e hs
          refine KL_146 FU _ _ _ _ _ _ _ _ _ _ _ _ hL hI (lv_sub hl [1, 2, 3, 0] rfl) (fun z0 H locs ls eo hI hl => ?_)
          subst eo
          refine lv_aload_n C.1 C.2.1 dX8_best_190 rfl (lv_at hl 0 rfl) ?_
          refine mg_44 C hI dX8_best_191 ?_
          refine lv_iload_n C.1 C.2.1 dX8_best_194 rfl (lv_at hl 2 rfl) ?_
          refine lv_iload C.1 C.2.1 dX8_best_195 (lv_at hl 3 rfl) ?_
          obtain ⟨hk, hs⟩ := ck_e hs
          refine ms_44 C hI hk dX8_best_197 (fun H locs hI => ?_)
          have hs := gv_be hs
          refine lv_iload_n C.1 C.2.1 dX8_best_198 rfl (lv_at hl 1 rfl) ?_
          refine lv_iconst (v := 1) C.1 C.2.1 dX8_best_199 (by decide) ?_
          refine lv_iload C.1 C.2.1 dX8_best_200 (lv_at hl 3 rfl) ?_
          refine lv_ishl C.1 C.2.1 dX8_best_202 ?_
          refine lv_ior C.1 C.2.1 dX8_best_203 ?_
          refine lv_topi (fun x2_204 ex2_204 => ?_)
          have hs := gv_at ex2_204 hs
          refine lv_istore_n (lv' := [(2, .int x2_204), (0, .ref (q 46)), (3, .int x3), (4, .int x4_146)]) C.1 C.2.1 dX8_best_204 rfl hl (by decide) rfl (fun ls hl => ?_)
          obtain ⟨x3_205, ex3_205⟩ : ∃ y : Int32, y = (x3 + 1) := ⟨_, rfl⟩
          have hs := gv_at ex3_205 hs
          refine lv_iinc (v := x3_205) (lv' := [(3, .int x3_205), (2, .int x2_204), (0, .ref (q 46)), (4, .int x4_146)]) C.1 C.2.1 dX8_best_205 hl (k := 2) rfl (by rw [ex3_205]; rfl) (by decide) rfl (fun ls hl => ?_)
          refine lv_goto (tgt := 135) C.1 C.2.1 dX8_best_208 (by decide) ?_
          exact ih _ _ _ _ _ _ _ _ _ _ _ hs hI (lv_sub hl [2, 1, 0] rfl) kk0
    obtain ⟨A_L, hL, hs⟩ := bd_e hs
    refine KL_135 FU _ _ _ _ _ _ _ _ _ _ _ hL hI (lv_sub hl [2, 1, 0] rfl) (fun z0 H locs ls eo hI hl => ?_)
    subst eo
    refine lv_aload_n C.1 C.2.1 dX8_best_211 rfl (lv_at hl 0 rfl) ?_
    refine mg_43 C hI dX8_best_212 ?_
    refine lv_iconst (v := 0) C.1 C.2.1 dX8_best_215 (by decide) ?_
    refine ma_43 C hI (by decide) dX8_best_216 ?_
    obtain ⟨rfl, rfl, rfl, rfl, rfl⟩ := so5 hs
    exact M_lret C hI dX8_best_217
  · have hs := if_t cn hs
    refine lv_ldc2 C.1 C.2.1 C.2.2.2.1 (C.2.2.2.2.1 _ kl_X8_348) dX8_best_7 ?_
    obtain ⟨rfl, rfl, rfl, rfl, rfl⟩ := so5 hs
    exact M_lret C hI dX8_best_10

def lX8_low_35 : Nat → Int64 → Int32 → Int64 → Int32 → (Nat → Int32) → (Nat → Int64) → (Nat → Nat → Int32) → (Nat → Nat → Int64) → Option (Int64)
  | 0, _, _, _, _, _, _, _, _ => none
  | n + 1, x1, x3, x4, x6, I, J, A, B =>
    if ((1 : Int32) <<< ((I 41) &&& 31)) ≤ x6 then
    (some x4)
    else
    (sX8_ones x6).bind fun r_48 =>
    if r_48 = x3 then
    (if (lg_cmp x4 (0 : Int64)) < 0 then
    (ck (inB x6 512) <|
    gv (B 42 (ix x6)) fun x4_82 =>
    gv (x6 + 1) fun x6_84 =>
    lX8_low_35 n x1 x3 x4_82 x6_84 I J A B)
    else
    ck (inB x6 512) <|
    if 0 ≤ (lg_cmp (B 42 (ix x6)) x4) then
    (gv (x6 + 1) fun x6_84 =>
    lX8_low_35 n x1 x3 x4 x6_84 I J A B)
    else
    ck (inB x6 512) <|
    gv (B 42 (ix x6)) fun x4_82 =>
    gv (x6 + 1) fun x6_84 =>
    lX8_low_35 n x1 x3 x4_82 x6_84 I J A B)
    else
    gv (x6 + 1) fun x6_84 =>
    lX8_low_35 n x1 x3 x4 x6_84 I J A B
def lX8_low_19 : Nat → Int64 → Int32 → (Nat → Int32) → (Nat → Int64) → (Nat → Nat → Int32) → (Nat → Nat → Int64) → Option (Int64)
  | 0, _, _, _, _, _, _ => none
  | n + 1, x1, x3, I, J, A, B =>
    if (I 41) ≤ x3 then
    (some x1)
    else
    (lX8_low_35 FU x1 x3 (-1 : Int64) (0 : Int32) I J A B).bind fun x4_35 =>
    gv (x1 + x4_35) fun x1_94 =>
    gv (x3 + 1) fun x3_95 =>
    lX8_low_19 n x1_94 x3_95 I J A B
def sX8_low (I : Nat → Int32) (J : Nat → Int64) (A : Nat → Nat → Int32) (B : Nat → Nat → Int64) : Option ((Int64) × (Nat → Int32) × (Nat → Int64) × (Nat → Nat → Int32) × (Nat → Nat → Int64)) :=
(sX8_canMend  I J A B).bind fun r_1 =>
if r_1 = 0 then
(some ((-1 : Int64), I, J, A, B))
else
(sX8_prices  I J A B).bind fun (I, J, A, B) =>
(lX8_low_19 FU (0 : Int64) (0 : Int32) I J A B).bind fun x1_19 =>
some (x1_19, I, J, A, B)
set_option maxRecDepth 100000 in
set_option maxHeartbeats 8000000 in
theorem kX8_low (l : Launch) (D : va_G) (cy : Nat → ClassId) (q : Nat → Nat) (I : Nat → Int32) (J : Nat → Int64) (A : Nat → Nat → Int32) (B : Nat → Nat → Int64) (r : Int64) (I2 : Nat → Int32) (J2 : Nat → Int64) (A2 : Nat → Nat → Int32) (B2 : Nat → Nat → Int64) (hs : sX8_low I J A B = some (r, I2, J2, A2, B2)) : McI l yX8_low cX8_low 7 (some .long) 7 [.ref (q 46)] D cy q I J A B (some (.long r)) I2 J2 A2 B2 := by
  refine M_start rfl rfl (Nat.le_of_ble_eq_true rfl) ?_
  intro p e s m args below meth c H locs C hI ls hl
  have hl : lv_has ls 7 [(0, .ref (q 46))] := hl
  rw [sX8_low] at hs
  refine lv_aload_n C.1 C.2.1 dX8_low_0 rfl (lv_at hl 0 rfl) ?_
  obtain ⟨r_1, hc, hs⟩ := bd_e hs
  refine M_call C hI (kX8_canMend l D cy q _ _ _ _ _ hc) ml_X8_345 im_X8_canMend se_X8_canMend ini_X8 co_X8_canMend hyX8_canMend rfl ⟨by decide, by decide⟩ hl.1 rfl (Nat.le_of_ble_eq_true rfl) dX8_low_1 (fun H locs hI => ?_)
  refine lv_if_ne (tgt := 11) C.1 C.2.1 dX8_low_4 (by decide) (fun cn => ?_) (fun cn => ?_)
  · have hs := if_f cn hs
    refine lv_aload_n C.1 C.2.1 dX8_low_11 rfl (lv_at hl 0 rfl) ?_
    obtain ⟨⟨I, J, A, B⟩, hc, hs⟩ := bd_e hs
    refine M_call C hI (kX8_prices l D cy q _ _ _ _ _ _ _ _ hc) ml_X8_350 im_X8_prices se_X8_prices ini_X8 co_X8_prices hyX8_prices rfl ⟨by decide, by decide⟩ hl.1 rfl (Nat.le_of_ble_eq_true rfl) dX8_low_12 (fun H locs hI => ?_)
    refine lv_lconst (v := 0) C.1 C.2.1 dX8_low_15 (by decide) ?_
    refine lv_lstore_n (lv' := [(1, .long (0 : Int64)), (0, .ref (q 46))]) C.1 C.2.1 dX8_low_16 rfl hl (by decide) rfl (fun ls hl => ?_)
    refine lv_iconst (v := 0) C.1 C.2.1 dX8_low_17 (by decide) ?_
    refine lv_istore_n (lv' := [(3, .int (0 : Int32)), (1, .long (0 : Int64)), (0, .ref (q 46))]) C.1 C.2.1 dX8_low_18 rfl hl (by decide) rfl (fun ls hl => ?_)
    have KL_19 : ∀ (n : Nat) (x1 : Int64) (x3 : Int32) (I : Nat → Int32) (J : Nat → Int64) (A : Nat → Nat → Int32) (B : Nat → Nat → Int64) (o : Int64) (Q : State → Prop) (H : Heap) (locs : List Loc) (ls : Array Slot), lX8_low_19 n x1 x3 I J A B = some o → MI D cy s s.heap H locs q I J A B → lv_has ls 7 [(0, .ref (q 46)), (1, .long x1), (3, .int x3)] → (∀ (o1_0 : Int64) (H : Heap) (locs : List Loc) (ls : Array Slot), o = o1_0 → MI D cy s s.heap H locs q I J A B → lv_has ls 7 [(1, .long o1_0)] → W p l e (rmL 7) s m args below meth c H locs 0 0 Q (F0 m 101 ls [])) → W p l e (rmL 7) s m args below meth c H locs 0 0 Q (F0 m 19 ls []) := by
      intro n; induction n with
      | zero => intro x1 x3 I J A B o Q H locs ls hs; rw [lX8_low_19] at hs; cases hs
      | succ n ih =>
        intro x1 x3 I J A B o Q H locs ls hs hI hl kk0
        rw [lX8_low_19] at hs
        refine lv_iload_n C.1 C.2.1 dX8_low_19 rfl (lv_at hl 2 rfl) ?_
        refine lv_aload_n C.1 C.2.1 dX8_low_20 rfl (lv_at hl 0 rfl) ?_
        refine mg_41 C hI dX8_low_21 ?_
        refine lv_icmp_ge (tgt := 101) C.1 C.2.1 dX8_low_24 (by decide) (fun cn => ?_) (fun cn => ?_)
        · have hs := if_t cn hs
          have eo := (Option.some.inj hs).symm
          exact kk0 _ _ _ _ eo hI (lv_sub hl [1] rfl)
        · have hs := if_f cn hs
          refine lv_ldc2 C.1 C.2.1 C.2.2.2.1 (C.2.2.2.2.1 _ kl_X8_348) dX8_low_27 ?_
          refine lv_lstore (lv' := [(4, .long (-1 : Int64)), (0, .ref (q 46)), (1, .long x1), (3, .int x3)]) C.1 C.2.1 dX8_low_30 hl (by decide) rfl (fun ls hl => ?_)
          refine lv_iconst (v := 0) C.1 C.2.1 dX8_low_32 (by decide) ?_
          refine lv_istore (lv' := [(6, .int (0 : Int32)), (4, .long (-1 : Int64)), (0, .ref (q 46)), (1, .long x1), (3, .int x3)]) C.1 C.2.1 dX8_low_33 hl (by decide) rfl (fun ls hl => ?_)
          have KL_35 : ∀ (n : Nat) (x1 : Int64) (x3 : Int32) (x4 : Int64) (x6 : Int32) (I : Nat → Int32) (J : Nat → Int64) (A : Nat → Nat → Int32) (B : Nat → Nat → Int64) (o : Int64) (Q : State → Prop) (H : Heap) (locs : List Loc) (ls : Array Slot), lX8_low_35 n x1 x3 x4 x6 I J A B = some o → MI D cy s s.heap H locs q I J A B → lv_has ls 7 [(0, .ref (q 46)), (1, .long x1), (3, .int x3), (4, .long x4), (6, .int x6)] → (∀ (o4_0 : Int64) (H : Heap) (locs : List Loc) (ls : Array Slot), o = o4_0 → MI D cy s s.heap H locs q I J A B → lv_has ls 7 [(0, .ref (q 46)), (1, .long x1), (3, .int x3), (4, .long o4_0)] → W p l e (rmL 7) s m args below meth c H locs 0 0 Q (F0 m 90 ls [])) → W p l e (rmL 7) s m args below meth c H locs 0 0 Q (F0 m 35 ls []) := by
            intro n; induction n with
            | zero => intro x1 x3 x4 x6 I J A B o Q H locs ls hs; rw [lX8_low_35] at hs; cases hs
            | succ n ih =>
              intro x1 x3 x4 x6 I J A B o Q H locs ls hs hI hl kk0
              rw [lX8_low_35] at hs
              refine lv_iload C.1 C.2.1 dX8_low_35 (lv_at hl 4 rfl) ?_
              refine lv_iconst (v := 1) C.1 C.2.1 dX8_low_37 (by decide) ?_
              refine lv_aload_n C.1 C.2.1 dX8_low_38 rfl (lv_at hl 0 rfl) ?_
              refine mg_41 C hI dX8_low_39 ?_
              refine lv_ishl C.1 C.2.1 dX8_low_42 ?_
              refine lv_icmp_ge (tgt := 90) C.1 C.2.1 dX8_low_43 (by decide) (fun cn => ?_) (fun cn => ?_)
              · have hs := if_t cn hs
                have eo := (Option.some.inj hs).symm
                exact kk0 _ _ _ _ eo hI (lv_sub hl [0, 1, 2, 3] rfl)
              · have hs := if_f cn hs
                refine lv_iload C.1 C.2.1 dX8_low_46 (lv_at hl 4 rfl) ?_
                obtain ⟨r_48, hc, hs⟩ := bd_e hs
                refine S_call (h := 7) C (kX8_ones l _ _ hc) ml_X8_353 st_X8_ones ini_X8 co_X8_ones hyX8_ones rfl ⟨by decide, by decide⟩ hl.1 rfl (Nat.le_of_ble_eq_true rfl) dX8_low_48 ⟨Nat.le_refl 0, Nat.le_refl 0, Nat.le_refl _, Nat.le_refl _⟩ ?_
                refine lv_iload_n C.1 C.2.1 dX8_low_51 rfl (lv_at hl 2 rfl) ?_
                refine lv_icmp_ne (tgt := 84) C.1 C.2.1 dX8_low_52 (by decide) (fun cn => ?_) (fun cn => ?_)
                · have hs := if_f cn hs
                  obtain ⟨x6_84, ex6_84⟩ : ∃ y : Int32, y = (x6 + 1) := ⟨_, rfl⟩
                  have hs := gv_at ex6_84 hs
                  refine lv_iinc (v := x6_84) (lv' := [(6, .int x6_84), (0, .ref (q 46)), (1, .long x1), (3, .int x3), (4, .long x4)]) C.1 C.2.1 dX8_low_84 hl (k := 4) rfl (by rw [ex6_84]; rfl) (by decide) rfl (fun ls hl => ?_)
                  refine lv_goto (tgt := 35) C.1 C.2.1 dX8_low_87 (by decide) ?_
                  exact ih _ _ _ _ _ _ _ _ _ _ _ _ _ hs hI (lv_sub hl [1, 2, 3, 4, 0] rfl) kk0
                · have hs := if_t cn hs
                  refine lv_lload C.1 C.2.1 dX8_low_55 (lv_at hl 3 rfl) ?_
                  refine lv_lconst (v := 0) C.1 C.2.1 dX8_low_57 (by decide) ?_
                  refine W.lcmp C.1 C.2.1 dX8_low_58 ?_
                  refine lv_if_lt (tgt := 75) C.1 C.2.1 dX8_low_59 (by decide) (fun cn => ?_) (fun cn => ?_)
                  · have hs := if_t cn hs
                    refine lv_aload_n C.1 C.2.1 dX8_low_75 rfl (lv_at hl 0 rfl) ?_
                    refine mg_42 C hI dX8_low_76 ?_
                    refine lv_iload C.1 C.2.1 dX8_low_79 (lv_at hl 4 rfl) ?_
                    obtain ⟨hk, hs⟩ := ck_e hs
                    refine ma_42 C hI hk dX8_low_81 ?_
                    refine lv_topl (fun x4_82 ex4_82 => ?_)
                    have hs := gv_at ex4_82 hs
                    refine lv_lstore (lv' := [(4, .long x4_82), (0, .ref (q 46)), (1, .long x1), (3, .int x3), (6, .int x6)]) C.1 C.2.1 dX8_low_82 hl (by decide) rfl (fun ls hl => ?_)
                    obtain ⟨x6_84, ex6_84⟩ : ∃ y : Int32, y = (x6 + 1) := ⟨_, rfl⟩
                    have hs := gv_at ex6_84 hs
                    refine lv_iinc (v := x6_84) (lv' := [(6, .int x6_84), (4, .long x4_82), (0, .ref (q 46)), (1, .long x1), (3, .int x3)]) C.1 C.2.1 dX8_low_84 hl (k := 4) rfl (by rw [ex6_84]; rfl) (by decide) rfl (fun ls hl => ?_)
                    refine lv_goto (tgt := 35) C.1 C.2.1 dX8_low_87 (by decide) ?_
                    exact ih _ _ _ _ _ _ _ _ _ _ _ _ _ hs hI (lv_sub hl [2, 3, 4, 1, 0] rfl) kk0
                  · have hs := if_f cn hs
                    refine lv_aload_n C.1 C.2.1 dX8_low_62 rfl (lv_at hl 0 rfl) ?_
                    refine mg_42 C hI dX8_low_63 ?_
                    refine lv_iload C.1 C.2.1 dX8_low_66 (lv_at hl 4 rfl) ?_
                    obtain ⟨hk, hs⟩ := ck_e hs
                    refine ma_42 C hI hk dX8_low_68 ?_
                    refine lv_lload C.1 C.2.1 dX8_low_69 (lv_at hl 3 rfl) ?_
                    refine W.lcmp C.1 C.2.1 dX8_low_71 ?_
                    refine lv_if_ge (tgt := 84) C.1 C.2.1 dX8_low_72 (by decide) (fun cn => ?_) (fun cn => ?_)
                    · have hs := if_t cn hs
                      obtain ⟨x6_84, ex6_84⟩ : ∃ y : Int32, y = (x6 + 1) := ⟨_, rfl⟩
                      have hs := gv_at ex6_84 hs
                      refine lv_iinc (v := x6_84) (lv' := [(6, .int x6_84), (0, .ref (q 46)), (1, .long x1), (3, .int x3), (4, .long x4)]) C.1 C.2.1 dX8_low_84 hl (k := 4) rfl (by rw [ex6_84]; rfl) (by decide) rfl (fun ls hl => ?_)
                      refine lv_goto (tgt := 35) C.1 C.2.1 dX8_low_87 (by decide) ?_
                      exact ih _ _ _ _ _ _ _ _ _ _ _ _ _ hs hI (lv_sub hl [1, 2, 3, 4, 0] rfl) kk0
                    · have hs := if_f cn hs
                      refine lv_aload_n C.1 C.2.1 dX8_low_75 rfl (lv_at hl 0 rfl) ?_
                      refine mg_42 C hI dX8_low_76 ?_
                      refine lv_iload C.1 C.2.1 dX8_low_79 (lv_at hl 4 rfl) ?_
                      obtain ⟨hk, hs⟩ := ck_e hs
                      refine ma_42 C hI hk dX8_low_81 ?_
                      refine lv_topl (fun x4_82 ex4_82 => ?_)
                      have hs := gv_at ex4_82 hs
                      refine lv_lstore (lv' := [(4, .long x4_82), (0, .ref (q 46)), (1, .long x1), (3, .int x3), (6, .int x6)]) C.1 C.2.1 dX8_low_82 hl (by decide) rfl (fun ls hl => ?_)
                      obtain ⟨x6_84, ex6_84⟩ : ∃ y : Int32, y = (x6 + 1) := ⟨_, rfl⟩
                      have hs := gv_at ex6_84 hs
                      refine lv_iinc (v := x6_84) (lv' := [(6, .int x6_84), (4, .long x4_82), (0, .ref (q 46)), (1, .long x1), (3, .int x3)]) C.1 C.2.1 dX8_low_84 hl (k := 4) rfl (by rw [ex6_84]; rfl) (by decide) rfl (fun ls hl => ?_)
                      refine lv_goto (tgt := 35) C.1 C.2.1 dX8_low_87 (by decide) ?_
                      exact ih _ _ _ _ _ _ _ _ _ _ _ _ _ hs hI (lv_sub hl [2, 3, 4, 1, 0] rfl) kk0
          obtain ⟨x4_35, hL, hs⟩ := bd_e hs
          refine KL_35 FU _ _ _ _ _ _ _ _ _ _ _ _ _ hL hI (lv_sub hl [2, 3, 4, 1, 0] rfl) (fun z0 H locs ls eo hI hl => ?_)
          subst eo
          refine lv_lload_n C.1 C.2.1 dX8_low_90 rfl (lv_at hl 1 rfl) ?_
          refine lv_lload C.1 C.2.1 dX8_low_91 (lv_at hl 3 rfl) ?_
          refine lv_ladd C.1 C.2.1 dX8_low_93 ?_
          refine lv_topl (fun x1_94 ex1_94 => ?_)
          have hs := gv_at ex1_94 hs
          refine lv_lstore_n (lv' := [(1, .long x1_94), (0, .ref (q 46)), (3, .int x3), (4, .long x4_35)]) C.1 C.2.1 dX8_low_94 rfl hl (by decide) rfl (fun ls hl => ?_)
          obtain ⟨x3_95, ex3_95⟩ : ∃ y : Int32, y = (x3 + 1) := ⟨_, rfl⟩
          have hs := gv_at ex3_95 hs
          refine lv_iinc (v := x3_95) (lv' := [(3, .int x3_95), (1, .long x1_94), (0, .ref (q 46)), (4, .long x4_35)]) C.1 C.2.1 dX8_low_95 hl (k := 2) rfl (by rw [ex3_95]; rfl) (by decide) rfl (fun ls hl => ?_)
          refine lv_goto (tgt := 19) C.1 C.2.1 dX8_low_98 (by decide) ?_
          exact ih _ _ _ _ _ _ _ _ _ _ _ hs hI (lv_sub hl [2, 1, 0] rfl) kk0
    obtain ⟨x1_19, hL, hs⟩ := bd_e hs
    refine KL_19 FU _ _ _ _ _ _ _ _ _ _ _ hL hI (lv_sub hl [2, 1, 0] rfl) (fun z0 H locs ls eo hI hl => ?_)
    subst eo
    refine lv_lload_n C.1 C.2.1 dX8_low_101 rfl (lv_at hl 0 rfl) ?_
    obtain ⟨rfl, rfl, rfl, rfl, rfl⟩ := so5 hs
    exact M_lret C hI dX8_low_102
  · have hs := if_t cn hs
    refine lv_ldc2 C.1 C.2.1 C.2.2.2.1 (C.2.2.2.2.1 _ kl_X8_348) dX8_low_7 ?_
    obtain ⟨rfl, rfl, rfl, rfl, rfl⟩ := so5 hs
    exact M_lret C hI dX8_low_10
