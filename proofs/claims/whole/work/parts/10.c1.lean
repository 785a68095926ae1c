def sX0_faceWind (x1 : Int32) (x2 : Int32) (I : Nat → Int32) (J : Nat → Int64) (A : Nat → Nat → Int32) (B : Nat → Nat → Int64) : Option ((Nat → Nat → Int32)) :=
gv (va_up A 96 (upd (A 96) (ix (0 : Int32)) x1)) fun A =>
gv (if x2 = 0 then (0 : Int32) else (1 : Int32)) fun v_22 =>
gv (va_up A 96 (upd (A 96) (ix (13 : Int32)) v_22)) fun A =>
some A
set_option maxRecDepth 100000 in
set_option maxHeartbeats 8000000 in
theorem kX0_faceWind (l : Launch) (D : va_G) (cy : Nat → ClassId) (P0 : Nat → Prop) (q z : Nat → Nat) (tl : va_W) (xx : (Nat → Option Nat) × (Nat → Option Nat) × Nat) (x1 : Int32) (x2 : Int32) (I : Nat → Int32) (J : Nat → Int64) (A : Nat → Nat → Int32) (B : Nat → Nat → Int64) (A2 : Nat → Nat → Int32) (hs : sX0_faceWind x1 x2 I J A B = some A2) : McC l yX0_faceWind cX0_faceWind 3 none 0 [.ref (q 5), .int x1, .int x2] D cy P0 q z tl xx I J A B none xx I J A2 B := by
  refine C_start rfl (Nat.le_of_ble_eq_true rfl) ?_
  intro p e s m args below meth c H locs C hI ls hl
  have hl : lv_has ls 3 [(0, .ref (q 5)), (1, .int x1), (2, .int x2)] := hl
  rw [sX0_faceWind] at hs
  refine lv_aload_n C.1 C.2.1 dX0_faceWind_0 rfl (lv_at hl 0 rfl) ?_
  refine cg_X0_96 C hI dX0_faceWind_1 ?_
  refine lv_iconst (v := 0) C.1 C.2.1 dX0_faceWind_4 (by decide) ?_
  refine lv_iload_n C.1 C.2.1 dX0_faceWind_5 rfl (lv_at hl 1 rfl) ?_
  refine cs_96 C hI (by decide) dX0_faceWind_6 (fun H locs hI => ?_)
  have hs := gv_be hs
  refine lv_aload_n C.1 C.2.1 dX0_faceWind_7 rfl (lv_at hl 0 rfl) ?_
  refine cg_X0_96 C hI dX0_faceWind_8 ?_
  refine lv_bipush (v := 13) C.1 C.2.1 dX0_faceWind_11 (by decide) ?_
  refine lv_iload_n C.1 C.2.1 dX0_faceWind_13 rfl (lv_at hl 2 rfl) ?_
  obtain ⟨v_22, ev_22, hs⟩ := gv_ex hs
  have KP_22 : W p l e (rmL 0) s m args below meth c H locs 0 0 (MQ below (cQ D cy P0 q tl none xx I J A2 B) args s 0 0 P0) (F0 m 22 ls [.int v_22, .int (13 : Int32), .ref (q 96)]) := by
    refine cs_96 C hI (by decide) dX0_faceWind_22 (fun H locs hI => ?_)
    have hs := gv_be hs
    obtain rfl := Option.some.inj hs
    exact C_vret C hI dX0_faceWind_23
  refine lv_if_eq (tgt := 21) C.1 C.2.1 dX0_faceWind_14 (by decide) (fun cn => ?_) (fun cn => ?_)
  · have ev_22 := if_t' cn ev_22
    refine lv_iconst (v := 0) C.1 C.2.1 dX0_faceWind_21 (by decide) ?_
    subst ev_22
    exact KP_22
  · have ev_22 := if_f' cn ev_22
    refine lv_iconst (v := 1) C.1 C.2.1 dX0_faceWind_17 (by decide) ?_
    refine lv_goto (tgt := 22) C.1 C.2.1 dX0_faceWind_18 (by decide) ?_
    subst ev_22
    exact KP_22

def sX0_valueOf (x1 : Int32) (I : Nat → Int32) (J : Nat → Int64) (A : Nat → Nat → Int32) (B : Nat → Nat → Int64) : Option ((Int32)) :=
gv (x1 - (263 : Int32)) fun x2_5 =>
if x2_5 < 0 then
(some (0 : Int32))
else
if (14 : Int32) ≤ x2_5 then
(some (0 : Int32))
else
ck (inB x2_5 14) <|
some (A 96 (ix x2_5))
set_option maxRecDepth 100000 in
set_option maxHeartbeats 8000000 in
theorem kX0_valueOf (l : Launch) (D : va_G) (cy : Nat → ClassId) (P0 : Nat → Prop) (q z : Nat → Nat) (tl : va_W) (xx : (Nat → Option Nat) × (Nat → Option Nat) × Nat) (x1 : Int32) (I : Nat → Int32) (J : Nat → Int64) (A : Nat → Nat → Int32) (B : Nat → Nat → Int64) (r : Int32) (hs : sX0_valueOf x1 I J A B = some r) : McC l yX0_valueOf cX0_valueOf 3 (some .int) 0 [.ref (q 5), .int x1] D cy P0 q z tl xx I J A B (some (.int r)) xx I J A B := by
  refine C_start rfl (Nat.le_of_ble_eq_true rfl) ?_
  intro p e s m args below meth c H locs C hI ls hl
  have hl : lv_has ls 3 [(0, .ref (q 5)), (1, .int x1)] := hl
  rw [sX0_valueOf] at hs
  refine lv_iload_n C.1 C.2.1 dX0_valueOf_0 rfl (lv_at hl 1 rfl) ?_
  refine lv_sipush (v := 263) C.1 C.2.1 dX0_valueOf_1 (by decide) ?_
  refine lv_isub C.1 C.2.1 dX0_valueOf_4 ?_
  refine lv_topi (fun x2_5 ex2_5 => ?_)
  have hs := gv_at ex2_5 hs
  refine lv_istore_n (lv' := [(2, .int x2_5), (0, .ref (q 5)), (1, .int x1)]) C.1 C.2.1 dX0_valueOf_5 rfl hl (by decide) rfl (fun ls hl => ?_)
  refine lv_iload_n C.1 C.2.1 dX0_valueOf_6 rfl (lv_at hl 0 rfl) ?_
  refine lv_if_lt (tgt := 25) C.1 C.2.1 dX0_valueOf_7 (by decide) (fun cn => ?_) (fun cn => ?_)
  · have hs := if_t cn hs
    refine lv_iconst (v := 0) C.1 C.2.1 dX0_valueOf_25 (by decide) ?_
    obtain rfl := Option.some.inj hs
    exact C_iret C hI dX0_valueOf_26
  · have hs := if_f cn hs
    refine lv_iload_n C.1 C.2.1 dX0_valueOf_10 rfl (lv_at hl 0 rfl) ?_
    refine lv_bipush (v := 14) C.1 C.2.1 dX0_valueOf_11 (by decide) ?_
    refine lv_icmp_ge (tgt := 25) C.1 C.2.1 dX0_valueOf_13 (by decide) (fun cn => ?_) (fun cn => ?_)
    · have hs := if_t cn hs
      refine lv_iconst (v := 0) C.1 C.2.1 dX0_valueOf_25 (by decide) ?_
      obtain rfl := Option.some.inj hs
      exact C_iret C hI dX0_valueOf_26
    · have hs := if_f cn hs
      refine lv_aload_n C.1 C.2.1 dX0_valueOf_16 rfl (lv_at hl 1 rfl) ?_
      refine cg_X0_96 C hI dX0_valueOf_17 ?_
      refine lv_iload_n C.1 C.2.1 dX0_valueOf_20 rfl (lv_at hl 0 rfl) ?_
      obtain ⟨hk, hs⟩ := ck_e hs
      refine ca_96 C hI hk dX0_valueOf_21 ?_
      refine lv_goto (tgt := 26) C.1 C.2.1 dX0_valueOf_22 (by decide) ?_
      obtain rfl := Option.some.inj hs
      exact C_iret C hI dX0_valueOf_26

def sX0_push (x1 : Int64) (I : Nat → Int32) (J : Nat → Int64) (A : Nat → Nat → Int32) (B : Nat → Nat → Int64) : Option ((Nat → Int32) × (Nat → Nat → Int64)) :=
if (64 : Int32) ≤ (I 98) then
(some (I, B))
else
ck (inB (I 98) 64) <|
gv (va_up B 97 (vp_updL (B 97) (ix (I 98)) x1)) fun B =>
gv (upd I 98 ((I 98) + (1 : Int32))) fun I =>
some (I, B)
set_option maxRecDepth 100000 in
set_option maxHeartbeats 8000000 in
theorem kX0_push (l : Launch) (D : va_G) (cy : Nat → ClassId) (P0 : Nat → Prop) (q z : Nat → Nat) (tl : va_W) (xx : (Nat → Option Nat) × (Nat → Option Nat) × Nat) (x1 : Int64) (I : Nat → Int32) (J : Nat → Int64) (A : Nat → Nat → Int32) (B : Nat → Nat → Int64) (I2 : Nat → Int32) (B2 : Nat → Nat → Int64) (hs : sX0_push x1 I J A B = some (I2, B2)) : McC l yX0_push cX0_push 3 none 0 [.ref (q 5), .long x1] D cy P0 q z tl xx I J A B none xx I2 J A B2 := by
  refine C_start rfl (Nat.le_of_ble_eq_true rfl) ?_
  intro p e s m args below meth c H locs C hI ls hl
  have hl : lv_has ls 3 [(0, .ref (q 5)), (1, .long x1)] := hl
  rw [sX0_push] at hs
  refine lv_aload_n C.1 C.2.1 dX0_push_0 rfl (lv_at hl 0 rfl) ?_
  refine cg_X0_98 C hI dX0_push_1 ?_
  refine lv_bipush (v := 64) C.1 C.2.1 dX0_push_4 (by decide) ?_
  refine lv_icmp_ge (tgt := 29) C.1 C.2.1 dX0_push_6 (by decide) (fun cn => ?_) (fun cn => ?_)
  · have hs := if_t cn hs
    obtain ⟨rfl, rfl⟩ := so2 hs
    exact C_vret C hI dX0_push_29
  · have hs := if_f cn hs
    refine lv_aload_n C.1 C.2.1 dX0_push_9 rfl (lv_at hl 0 rfl) ?_
    refine cg_X0_97 C hI dX0_push_10 ?_
    refine lv_aload_n C.1 C.2.1 dX0_push_13 rfl (lv_at hl 0 rfl) ?_
    refine cg_X0_98 C hI dX0_push_14 ?_
    refine lv_lload_n C.1 C.2.1 dX0_push_17 rfl (lv_at hl 1 rfl) ?_
    obtain ⟨hk, hs⟩ := ck_e hs
    refine cs_97 C hI hk dX0_push_18 (fun H locs hI => ?_)
    have hs := gv_be hs
    refine lv_aload_n C.1 C.2.1 dX0_push_19 rfl (lv_at hl 0 rfl) ?_
    refine lv_dup C.1 C.2.1 dX0_push_20 rfl ?_
    refine cg_X0_98 C hI dX0_push_21 ?_
    refine lv_iconst (v := 1) C.1 C.2.1 dX0_push_24 (by decide) ?_
    refine lv_iadd C.1 C.2.1 dX0_push_25 ?_
    refine cp_X0_98 C hI dX0_push_26 (fun H locs hI => ?_)
    have hs := gv_be hs
    obtain ⟨rfl, rfl⟩ := so2 hs
    exact C_vret C hI dX0_push_29

def sX0_pop (I : Nat → Int32) (J : Nat → Int64) (A : Nat → Nat → Int32) (B : Nat → Nat → Int64) : Option ((Int64) × (Nat → Int32)) :=
if (I 98) = 0 then
(some ((0 : Int64), I))
else
gv (upd I 98 ((I 98) - (1 : Int32))) fun I =>
ck (inB (I 98) 64) <|
some ((B 97 (ix (I 98))), I)
set_option maxRecDepth 100000 in
set_option maxHeartbeats 8000000 in
theorem kX0_pop (l : Launch) (D : va_G) (cy : Nat → ClassId) (P0 : Nat → Prop) (q z : Nat → Nat) (tl : va_W) (xx : (Nat → Option Nat) × (Nat → Option Nat) × Nat) (I : Nat → Int32) (J : Nat → Int64) (A : Nat → Nat → Int32) (B : Nat → Nat → Int64) (r : Int64) (I2 : Nat → Int32) (hs : sX0_pop I J A B = some (r, I2)) : McC l yX0_pop cX0_pop 1 (some .long) 0 [.ref (q 5)] D cy P0 q z tl xx I J A B (some (.long r)) xx I2 J A B := by
  refine C_start rfl (Nat.le_of_ble_eq_true rfl) ?_
  intro p e s m args below meth c H locs C hI ls hl
  have hl : lv_has ls 1 [(0, .ref (q 5))] := hl
  rw [sX0_pop] at hs
  refine lv_aload_n C.1 C.2.1 dX0_pop_0 rfl (lv_at hl 0 rfl) ?_
  refine cg_X0_98 C hI dX0_pop_1 ?_
  refine lv_if_ne (tgt := 9) C.1 C.2.1 dX0_pop_4 (by decide) (fun cn => ?_) (fun cn => ?_)
  · have hs := if_f cn hs
    refine lv_aload_n C.1 C.2.1 dX0_pop_9 rfl (lv_at hl 0 rfl) ?_
    refine lv_dup C.1 C.2.1 dX0_pop_10 rfl ?_
    refine cg_X0_98 C hI dX0_pop_11 ?_
    refine lv_iconst (v := 1) C.1 C.2.1 dX0_pop_14 (by decide) ?_
    refine lv_isub C.1 C.2.1 dX0_pop_15 ?_
    refine cp_X0_98 C hI dX0_pop_16 (fun H locs hI => ?_)
    have hs := gv_be hs
    refine lv_aload_n C.1 C.2.1 dX0_pop_19 rfl (lv_at hl 0 rfl) ?_
    refine cg_X0_97 C hI dX0_pop_20 ?_
    refine lv_aload_n C.1 C.2.1 dX0_pop_23 rfl (lv_at hl 0 rfl) ?_
    refine cg_X0_98 C hI dX0_pop_24 ?_
    obtain ⟨hk, hs⟩ := ck_e hs
    refine ca_97 C hI hk dX0_pop_27 ?_
    obtain ⟨rfl, rfl⟩ := so2 hs
    exact C_lret C hI dX0_pop_28
  · have hs := if_t cn hs
    refine lv_lconst (v := 0) C.1 C.2.1 dX0_pop_7 (by decide) ?_
    obtain ⟨rfl, rfl⟩ := so2 hs
    exact C_lret C hI dX0_pop_8

def sX1_standLegAt (x1 : Int32) (I : Nat → Int32) (J : Nat → Int64) (A : Nat → Nat → Int32) (B : Nat → Nat → Int64) : Option ((Nat → Int32)) :=
gv (upd I 57 ((A 15 (ix (2 : Int32))) * ((sv_1 (ix (3 : Int32))) - x1))) fun I =>
some I
set_option maxRecDepth 100000 in
set_option maxHeartbeats 8000000 in
theorem kX1_standLegAt (l : Launch) (D : va_G) (cy : Nat → ClassId) (P0 : Nat → Prop) (q z : Nat → Nat) (tl : va_W) (xx : (Nat → Option Nat) × (Nat → Option Nat) × Nat) (x1 : Int32) (I : Nat → Int32) (J : Nat → Int64) (A : Nat → Nat → Int32) (B : Nat → Nat → Int64) (I2 : Nat → Int32) (hs : sX1_standLegAt x1 I J A B = some I2) : McC l yX1_standLegAt cX1_standLegAt 2 none 0 [.ref (q 2), .int x1] D cy P0 q z tl xx I J A B none xx I2 J A B := by
  refine C_start rfl (Nat.le_of_ble_eq_true rfl) ?_
  intro p e s m args below meth c H locs C hI ls hl
  have hl : lv_has ls 2 [(0, .ref (q 2)), (1, .int x1)] := hl
  rw [sX1_standLegAt] at hs
  refine lv_aload_n C.1 C.2.1 dX1_standLegAt_0 rfl (lv_at hl 0 rfl) ?_
  refine lv_aload_n C.1 C.2.1 dX1_standLegAt_1 rfl (lv_at hl 0 rfl) ?_
  refine cg_X1_50 C hI dX1_standLegAt_2 ?_
  refine cg_X1_15 C hI dX1_standLegAt_5 ?_
  refine lv_iconst (v := 2) C.1 C.2.1 dX1_standLegAt_8 (by decide) ?_
  refine ca_15 C hI (by decide) dX1_standLegAt_9 ?_
  refine cz_X1_1 C hI dX1_standLegAt_10 ?_
  refine lv_iconst (v := 3) C.1 C.2.1 dX1_standLegAt_13 (by decide) ?_
  refine ct_1 C hI (by decide) dX1_standLegAt_14 ?_
  refine lv_iload_n C.1 C.2.1 dX1_standLegAt_15 rfl (lv_at hl 1 rfl) ?_
  refine lv_isub C.1 C.2.1 dX1_standLegAt_16 ?_
  refine lv_imul C.1 C.2.1 dX1_standLegAt_17 ?_
  refine cp_X1_57 C hI dX1_standLegAt_18 (fun H locs hI => ?_)
  have hs := gv_be hs
  obtain rfl := Option.some.inj hs
  exact C_vret C hI dX1_standLegAt_21

def lX1_addStiffs_2 : Nat → Int32 → Int32 → Int32 → (Nat → Int32) → (Nat → Int64) → (Nat → Nat → Int32) → (Nat → Nat → Int64) → Option ((Nat → Nat → Int32))
  | 0, _, _, _, _, _, _, _ => none
  | n + 1, x1, x2, x3, I, J, A, B =>
    if (4 : Int32) ≤ x3 then
    (some A)
    else
    gv ((x1 * (8 : Int32)) + ((2 : Int32) * x3)) fun x4_15 =>
    gv (fun (y0_j41 : Int32) (A : Nat → Nat → Int32) =>
    gv (fun (y0_j71 : Int32) (A : Nat → Nat → Int32) =>
    ck (inB x3 4) <|
    gv (va_up A 64 (upd (A 64) (ix x3) (y0_j41 + y0_j71))) fun A =>
    gv (x3 + 1) fun x3_84 =>
    lX1_addStiffs_2 n x1 x2 x3_84 I J A B) fun k_71 =>
    if ((ushr x2 (((2 : Int32) * x3) + (1 : Int32))) &&& (1 : Int32)) = 0 then
    (ck (inB (x4_15 + (1 : Int32)) 48) <|
    k_71 (A 10 (ix (x4_15 + (1 : Int32)))) A)
    else
    k_71 (0 : Int32) A) fun k_41 =>
    if ((ushr x2 ((2 : Int32) * x3)) &&& (1 : Int32)) = 0 then
    (ck (inB x4_15 48) <|
    k_41 (A 10 (ix x4_15)) A)
    else
    k_41 (0 : Int32) A
def sX1_addStiffs (x1 : Int32) (x2 : Int32) (I : Nat → Int32) (J : Nat → Int64) (A : Nat → Nat → Int32) (B : Nat → Nat → Int64) : Option ((Nat → Nat → Int32)) :=
(lX1_addStiffs_2 FU x1 x2 (0 : Int32) I J A B).bind fun A =>
some A
set_option maxRecDepth 100000 in
set_option maxHeartbeats 8000000 in
theorem kX1_addStiffs (l : Launch) (D : va_G) (cy : Nat → ClassId) (P0 : Nat → Prop) (q z : Nat → Nat) (tl : va_W) (xx : (Nat → Option Nat) × (Nat → Option Nat) × Nat) (x1 : Int32) (x2 : Int32) (I : Nat → Int32) (J : Nat → Int64) (A : Nat → Nat → Int32) (B : Nat → Nat → Int64) (A2 : Nat → Nat → Int32) (hs : sX1_addStiffs x1 x2 I J A B = some A2) : McC l yX1_addStiffs cX1_addStiffs 7 none 0 [.ref (q 2), .int x1, .int x2] D cy P0 q z tl xx I J A B none xx I J A2 B := by
  refine C_start rfl (Nat.le_of_ble_eq_true rfl) ?_
  intro p e s m args below meth c H locs C hI ls hl
  have hl : lv_has ls 7 [(0, .ref (q 2)), (1, .int x1), (2, .int x2)] := hl
  rw [sX1_addStiffs] at hs
  refine lv_iconst (v := 0) C.1 C.2.1 dX1_addStiffs_0 (by decide) ?_
  refine lv_istore_n (lv' := [(3, .int (0 : Int32)), (0, .ref (q 2)), (1, .int x1), (2, .int x2)]) C.1 C.2.1 dX1_addStiffs_1 rfl hl (by decide) rfl (fun ls hl => ?_)
  have KL_2 : ∀ (n : Nat) (x1 : Int32) (x2 : Int32) (x3 : Int32) (I : Nat → Int32) (J : Nat → Int64) (A : Nat → Nat → Int32) (B : Nat → Nat → Int64) (o : (Nat → Nat → Int32)) (Q : State → Prop) (H : Heap) (locs : List Loc) (ls : Array Slot), lX1_addStiffs_2 n x1 x2 x3 I J A B = some o → CI D cy s P0 s.heap H locs q z tl xx I J A B → lv_has ls 7 [(0, .ref (q 2)), (1, .int x1), (2, .int x2), (3, .int x3)] → (∀ (A_0 : Nat → Nat → Int32) (H : Heap) (locs : List Loc) (ls : Array Slot), o = A_0 → CI D cy s P0 s.heap H locs q z tl xx I J A_0 B → lv_has ls 7 [] → W p l e (rmL 0) s m args below meth c H locs 0 0 Q (F0 m 90 ls [])) → W p l e (rmL 0) s m args below meth c H locs 0 0 Q (F0 m 2 ls []) := by
    intro n; induction n with
    | zero => intro x1 x2 x3 I J A B o Q H locs ls hs; rw [lX1_addStiffs_2] at hs; cases hs
    | succ n ih =>
      intro x1 x2 x3 I J A B o Q H locs ls hs hI hl kk0
      rw [lX1_addStiffs_2] at hs
      refine lv_iload_n C.1 C.2.1 dX1_addStiffs_2 rfl (lv_at hl 3 rfl) ?_
      refine lv_iconst (v := 4) C.1 C.2.1 dX1_addStiffs_3 (by decide) ?_
      refine lv_icmp_ge (tgt := 90) C.1 C.2.1 dX1_addStiffs_4 (by decide) (fun cn => ?_) (fun cn => ?_)
      · have hs := if_t cn hs
        have eo := (Option.some.inj hs).symm
        exact kk0 _ _ _ _ eo hI (lv_sub hl [] rfl)
      · have hs := if_f cn hs
        refine lv_iload_n C.1 C.2.1 dX1_addStiffs_7 rfl (lv_at hl 1 rfl) ?_
        refine lv_bipush (v := 8) C.1 C.2.1 dX1_addStiffs_8 (by decide) ?_
        refine lv_imul C.1 C.2.1 dX1_addStiffs_10 ?_
        refine lv_iconst (v := 2) C.1 C.2.1 dX1_addStiffs_11 (by decide) ?_
        refine lv_iload_n C.1 C.2.1 dX1_addStiffs_12 rfl (lv_at hl 3 rfl) ?_
        refine lv_imul C.1 C.2.1 dX1_addStiffs_13 ?_
        refine lv_iadd C.1 C.2.1 dX1_addStiffs_14 ?_
        refine lv_topi (fun x4_15 ex4_15 => ?_)
        have hs := gv_at ex4_15 hs
        refine lv_istore (lv' := [(4, .int x4_15), (0, .ref (q 2)), (1, .int x1), (2, .int x2), (3, .int x3)]) C.1 C.2.1 dX1_addStiffs_15 hl (by decide) rfl (fun ls hl => ?_)
        refine lv_iload_n C.1 C.2.1 dX1_addStiffs_17 rfl (lv_at hl 3 rfl) ?_
        refine lv_iconst (v := 2) C.1 C.2.1 dX1_addStiffs_18 (by decide) ?_
        refine lv_iload_n C.1 C.2.1 dX1_addStiffs_19 rfl (lv_at hl 4 rfl) ?_
        refine lv_imul C.1 C.2.1 dX1_addStiffs_20 ?_
        refine lv_iushr (v := ushr _ _) C.1 C.2.1 dX1_addStiffs_21 rfl ?_
        refine lv_iconst (v := 1) C.1 C.2.1 dX1_addStiffs_22 (by decide) ?_
        refine lv_iand C.1 C.2.1 dX1_addStiffs_23 ?_
        obtain ⟨k_41, ek_41, hs⟩ := gv_ex hs
        have KJ_41 : ∀ (y0_j41 : Int32) (A : Nat → Nat → Int32) (H : Heap) (locs : List Loc) (ls : Array Slot), k_41 y0_j41 A = some o → CI D cy s P0 s.heap H locs q z tl xx I J A B → lv_has ls 7 [(0, .ref (q 2)), (1, .int x1), (2, .int x2), (3, .int x3), (4, .int x4_15)] → W p l e (rmL 0) s m args below meth c H locs 0 0 Q (F0 m 41 ls [.int y0_j41]) := by
          intro y0_j41 A H locs ls hs hI hl
          rw [ek_41] at hs
          refine lv_istore (lv' := [(5, .int y0_j41), (0, .ref (q 2)), (1, .int x1), (2, .int x2), (3, .int x3), (4, .int x4_15)]) C.1 C.2.1 dX1_addStiffs_41 hl (by decide) rfl (fun ls hl => ?_)
          refine lv_iload_n C.1 C.2.1 dX1_addStiffs_43 rfl (lv_at hl 3 rfl) ?_
          refine lv_iconst (v := 2) C.1 C.2.1 dX1_addStiffs_44 (by decide) ?_
          refine lv_iload_n C.1 C.2.1 dX1_addStiffs_45 rfl (lv_at hl 4 rfl) ?_
          refine lv_imul C.1 C.2.1 dX1_addStiffs_46 ?_
          refine lv_iconst (v := 1) C.1 C.2.1 dX1_addStiffs_47 (by decide) ?_
          refine lv_iadd C.1 C.2.1 dX1_addStiffs_48 ?_
          refine lv_iushr (v := ushr _ _) C.1 C.2.1 dX1_addStiffs_49 rfl ?_
          refine lv_iconst (v := 1) C.1 C.2.1 dX1_addStiffs_50 (by decide) ?_
          refine lv_iand C.1 C.2.1 dX1_addStiffs_51 ?_
          obtain ⟨k_71, ek_71, hs⟩ := gv_ex hs
          have KJ_71 : ∀ (y0_j71 : Int32) (A : Nat → Nat → Int32) (H : Heap) (locs : List Loc) (ls : Array Slot), k_71 y0_j71 A = some o → CI D cy s P0 s.heap H locs q z tl xx I J A B → lv_has ls 7 [(0, .ref (q 2)), (1, .int x1), (2, .int x2), (3, .int x3), (5, .int y0_j41)] → W p l e (rmL 0) s m args below meth c H locs 0 0 Q (F0 m 71 ls [.int y0_j71]) := by
            intro y0_j71 A H locs ls hs hI hl
            rw [ek_71] at hs
            refine lv_istore (lv' := [(6, .int y0_j71), (0, .ref (q 2)), (1, .int x1), (2, .int x2), (3, .int x3), (5, .int y0_j41)]) C.1 C.2.1 dX1_addStiffs_71 hl (by decide) rfl (fun ls hl => ?_)
            refine lv_aload_n C.1 C.2.1 dX1_addStiffs_73 rfl (lv_at hl 1 rfl) ?_
            refine cg_X1_64 C hI dX1_addStiffs_74 ?_
            refine lv_iload_n C.1 C.2.1 dX1_addStiffs_77 rfl (lv_at hl 4 rfl) ?_
            refine lv_iload C.1 C.2.1 dX1_addStiffs_78 (lv_at hl 5 rfl) ?_
            refine lv_iload C.1 C.2.1 dX1_addStiffs_80 (lv_at hl 0 rfl) ?_
            refine lv_iadd C.1 C.2.1 dX1_addStiffs_82 ?_
            obtain ⟨hk, hs⟩ := ck_e hs
            refine cs_64 C hI hk dX1_addStiffs_83 (fun H locs hI => ?_)
            have hs := gv_be hs
            obtain ⟨x3_84, ex3_84⟩ : ∃ y : Int32, y = (x3 + 1) := ⟨_, rfl⟩
            have hs := gv_at ex3_84 hs
            refine lv_iinc (v := x3_84) (lv' := [(3, .int x3_84), (6, .int y0_j71), (0, .ref (q 2)), (1, .int x1), (2, .int x2), (5, .int y0_j41)]) C.1 C.2.1 dX1_addStiffs_84 hl (k := 4) rfl (by rw [ex3_84]; rfl) (by decide) rfl (fun ls hl => ?_)
            refine lv_goto (tgt := 2) C.1 C.2.1 dX1_addStiffs_87 (by decide) ?_
            exact ih _ _ _ _ _ _ _ _ _ _ _ _ hs hI (lv_sub hl [2, 3, 4, 0] rfl) kk0
          refine lv_if_ne (tgt := 70) C.1 C.2.1 dX1_addStiffs_52 (by decide) (fun cn => ?_) (fun cn => ?_)
          · have hs := if_f cn hs
            refine lv_iconst (v := 0) C.1 C.2.1 dX1_addStiffs_70 (by decide) ?_
            exact KJ_71 _ _ _ _ _ hs hI (lv_sub hl [1, 2, 3, 4, 0] rfl)
          · have hs := if_t cn hs
            refine lv_aload_n C.1 C.2.1 dX1_addStiffs_55 rfl (lv_at hl 1 rfl) ?_
            refine cg_X1_50 C hI dX1_addStiffs_56 ?_
            refine cg_X1_10 C hI dX1_addStiffs_59 ?_
            refine lv_iload C.1 C.2.1 dX1_addStiffs_62 (lv_at hl 5 rfl) ?_
            refine lv_iconst (v := 1) C.1 C.2.1 dX1_addStiffs_64 (by decide) ?_
            refine lv_iadd C.1 C.2.1 dX1_addStiffs_65 ?_
            obtain ⟨hk, hs⟩ := ck_e hs
            refine ca_10 C hI hk dX1_addStiffs_66 ?_
            refine lv_goto (tgt := 71) C.1 C.2.1 dX1_addStiffs_67 (by decide) ?_
            exact KJ_71 _ _ _ _ _ hs hI (lv_sub hl [1, 2, 3, 4, 0] rfl)
        refine lv_if_ne (tgt := 40) C.1 C.2.1 dX1_addStiffs_24 (by decide) (fun cn => ?_) (fun cn => ?_)
        · have hs := if_f cn hs
          refine lv_iconst (v := 0) C.1 C.2.1 dX1_addStiffs_40 (by decide) ?_
          exact KJ_41 _ _ _ _ _ hs hI (lv_sub hl [1, 2, 3, 4, 0] rfl)
        · have hs := if_t cn hs
          refine lv_aload_n C.1 C.2.1 dX1_addStiffs_27 rfl (lv_at hl 1 rfl) ?_
          refine cg_X1_50 C hI dX1_addStiffs_28 ?_
          refine cg_X1_10 C hI dX1_addStiffs_31 ?_
          refine lv_iload C.1 C.2.1 dX1_addStiffs_34 (lv_at hl 0 rfl) ?_
          obtain ⟨hk, hs⟩ := ck_e hs
          refine ca_10 C hI hk dX1_addStiffs_36 ?_
          refine lv_goto (tgt := 41) C.1 C.2.1 dX1_addStiffs_37 (by decide) ?_
          exact KJ_41 _ _ _ _ _ hs hI (lv_sub hl [1, 2, 3, 4, 0] rfl)
  obtain ⟨A_L, hL, hs⟩ := bd_e hs
  refine KL_2 FU _ _ _ _ _ _ _ _ _ _ _ _ hL hI (lv_sub hl [1, 2, 3, 0] rfl) (fun z0 H locs ls eo hI hl => ?_)
  subst eo
  obtain rfl := Option.some.inj hs
  exact C_vret C hI dX1_addStiffs_90

def lX1_hasCommonDivisors_2 : Nat → Int64 → Int32 → (Nat → Int32) → (Nat → Int64) → (Nat → Nat → Int32) → (Nat → Nat → Int64) → Option (((Nat → Nat → Int64)) ⊕ ((Nat → Nat → Int64)))
  | 0, _, _, _, _, _, _ => none
  | n + 1, x1, x3, I, J, A, B =>
    if (4 : Int32) ≤ x3 then
    (some (.inr B))
    else
    ck (inB x3 4) <|
    gv (fun (B : Nat → Nat → Int64) =>
    ck (inB x3 4) <|
    gv ((1000 : Int64) * (((A 64 (ix x3))).toInt64)) fun x4_40 =>
    ck (inB x3 4) <|
    ck (inB x3 4) <|
    gv (va_up B 65 (vp_updL (B 65) (ix x3) ((B 65 (ix x3)) * x4_40))) fun B =>
    ck (inB x3 4) <|
    ck (inB x3 4) <|
    gv (va_up B 66 (vp_updL (B 66) (ix x3) ((B 66 (ix x3)) * x1))) fun B =>
    ck (inB x3 4) <|
    gv (va_up B 67 (vp_updL (B 67) (ix x3) (x4_40 * x1))) fun B =>
    gv (x3 + 1) fun x3_73 =>
    lX1_hasCommonDivisors_2 n x1 x3_73 I J A B) fun k_29 =>
    if (A 64 (ix x3)) = 0 then
    (ck (inB x3 4) <|
    if (lg_cmp (B 66 (ix x3)) (0 : Int64)) = 0 then
    (k_29 B)
    else
    some (.inl B))
    else
    k_29 B
def sX1_hasCommonDivisors (x1 : Int64) (I : Nat → Int32) (J : Nat → Int64) (A : Nat → Nat → Int32) (B : Nat → Nat → Int64) : Option ((Int32) × (Nat → Nat → Int64)) :=
(lX1_hasCommonDivisors_2 FU x1 (0 : Int32) I J A B).bind fun o_2 => match o_2 with
| .inl B =>
some ((0 : Int32), B)
| .inr B =>
some ((1 : Int32), B)
set_option maxRecDepth 100000 in
set_option maxHeartbeats 8000000 in
theorem kX1_hasCommonDivisors (l : Launch) (D : va_G) (cy : Nat → ClassId) (P0 : Nat → Prop) (q z : Nat → Nat) (tl : va_W) (xx : (Nat → Option Nat) × (Nat → Option Nat) × Nat) (x1 : Int64) (I : Nat → Int32) (J : Nat → Int64) (A : Nat → Nat → Int32) (B : Nat → Nat → Int64) (r : Int32) (B2 : Nat → Nat → Int64) (hs : sX1_hasCommonDivisors x1 I J A B = some (r, B2)) : McC l yX1_hasCommonDivisors cX1_hasCommonDivisors 6 (some .boolean) 0 [.ref (q 2), .long x1] D cy P0 q z tl xx I J A B (some (.int r)) xx I J A B2 := by
  refine C_start rfl (Nat.le_of_ble_eq_true rfl) ?_
  intro p e s m args below meth c H locs C hI ls hl
  have hl : lv_has ls 6 [(0, .ref (q 2)), (1, .long x1)] := hl
  rw [sX1_hasCommonDivisors] at hs
  refine lv_iconst (v := 0) C.1 C.2.1 dX1_hasCommonDivisors_0 (by decide) ?_
  refine lv_istore_n (lv' := [(3, .int (0 : Int32)), (0, .ref (q 2)), (1, .long x1)]) C.1 C.2.1 dX1_hasCommonDivisors_1 rfl hl (by decide) rfl (fun ls hl => ?_)
  have KL_2 : ∀ (n : Nat) (x1 : Int64) (x3 : Int32) (I : Nat → Int32) (J : Nat → Int64) (A : Nat → Nat → Int32) (B : Nat → Nat → Int64) (o : ((Nat → Nat → Int64)) ⊕ ((Nat → Nat → Int64))) (Q : State → Prop) (H : Heap) (locs : List Loc) (ls : Array Slot), lX1_hasCommonDivisors_2 n x1 x3 I J A B = some o → CI D cy s P0 s.heap H locs q z tl xx I J A B → lv_has ls 6 [(0, .ref (q 2)), (1, .long x1), (3, .int x3)] → (∀ (B_0 : Nat → Nat → Int64) (H : Heap) (locs : List Loc) (ls : Array Slot), o = (.inl B_0) → CI D cy s P0 s.heap H locs q z tl xx I J A B_0 → lv_has ls 6 [] → W p l e (rmL 0) s m args below meth c H locs 0 0 Q (F0 m 27 ls [])) → (∀ (B_1 : Nat → Nat → Int64) (H : Heap) (locs : List Loc) (ls : Array Slot), o = (.inr B_1) → CI D cy s P0 s.heap H locs q z tl xx I J A B_1 → lv_has ls 6 [] → W p l e (rmL 0) s m args below meth c H locs 0 0 Q (F0 m 79 ls [])) → W p l e (rmL 0) s m args below meth c H locs 0 0 Q (F0 m 2 ls []) := by
    intro n; induction n with
    | zero => intro x1 x3 I J A B o Q H locs ls hs; rw [lX1_hasCommonDivisors_2] at hs; cases hs
    | succ n ih =>
      intro x1 x3 I J A B o Q H locs ls hs hI hl kk0 kk1
      rw [lX1_hasCommonDivisors_2] at hs
      refine lv_iload_n C.1 C.2.1 dX1_hasCommonDivisors_2 rfl (lv_at hl 2 rfl) ?_
      refine lv_iconst (v := 4) C.1 C.2.1 dX1_hasCommonDivisors_3 (by decide) ?_
      refine lv_icmp_ge (tgt := 79) C.1 C.2.1 dX1_hasCommonDivisors_4 (by decide) (fun cn => ?_) (fun cn => ?_)
      · have hs := if_t cn hs
        have eo := (Option.some.inj hs).symm
        exact kk1 _ _ _ _ eo hI (lv_sub hl [] rfl)
      · have hs := if_f cn hs
        refine lv_aload_n C.1 C.2.1 dX1_hasCommonDivisors_7 rfl (lv_at hl 0 rfl) ?_
        refine cg_X1_64 C hI dX1_hasCommonDivisors_8 ?_
        refine lv_iload_n C.1 C.2.1 dX1_hasCommonDivisors_11 rfl (lv_at hl 2 rfl) ?_
        obtain ⟨hk, hs⟩ := ck_e hs
        refine ca_64 C hI hk dX1_hasCommonDivisors_12 ?_
        obtain ⟨k_29, ek_29, hs⟩ := gv_ex hs
        have KJ_29 : ∀ (B : Nat → Nat → Int64) (H : Heap) (locs : List Loc) (ls : Array Slot), k_29 B = some o → CI D cy s P0 s.heap H locs q z tl xx I J A B → lv_has ls 6 [(0, .ref (q 2)), (1, .long x1), (3, .int x3)] → W p l e (rmL 0) s m args below meth c H locs 0 0 Q (F0 m 29 ls []) := by
          intro B H locs ls hs hI hl
          rw [ek_29] at hs
          refine lv_ldc2 C.1 C.2.1 C.2.2.2.1 (C.2.2.2.2.1 _ kl_X1_116) dX1_hasCommonDivisors_29 ?_
          refine lv_aload_n C.1 C.2.1 dX1_hasCommonDivisors_32 rfl (lv_at hl 0 rfl) ?_
          refine cg_X1_64 C hI dX1_hasCommonDivisors_33 ?_
          refine lv_iload_n C.1 C.2.1 dX1_hasCommonDivisors_36 rfl (lv_at hl 2 rfl) ?_
          obtain ⟨hk, hs⟩ := ck_e hs
          refine ca_64 C hI hk dX1_hasCommonDivisors_37 ?_
          refine lv_i2l C.1 C.2.1 dX1_hasCommonDivisors_38 rfl ?_
          refine lv_lmul C.1 C.2.1 dX1_hasCommonDivisors_39 ?_
          refine lv_topl (fun x4_40 ex4_40 => ?_)
          have hs := gv_at ex4_40 hs
          refine lv_lstore (lv' := [(4, .long x4_40), (0, .ref (q 2)), (1, .long x1), (3, .int x3)]) C.1 C.2.1 dX1_hasCommonDivisors_40 hl (by decide) rfl (fun ls hl => ?_)
          refine lv_aload_n C.1 C.2.1 dX1_hasCommonDivisors_42 rfl (lv_at hl 1 rfl) ?_
          refine cg_X1_65 C hI dX1_hasCommonDivisors_43 ?_
          refine lv_iload_n C.1 C.2.1 dX1_hasCommonDivisors_46 rfl (lv_at hl 3 rfl) ?_
          refine lv_dup2_11 C.1 C.2.1 dX1_hasCommonDivisors_47 rfl rfl ?_
          obtain ⟨hk, hs⟩ := ck_e hs
          refine ca_65 C hI hk dX1_hasCommonDivisors_48 ?_
          refine lv_lload C.1 C.2.1 dX1_hasCommonDivisors_49 (lv_at hl 0 rfl) ?_
          refine lv_lmul C.1 C.2.1 dX1_hasCommonDivisors_51 ?_
          obtain ⟨hk, hs⟩ := ck_e hs
          refine cs_65 C hI hk dX1_hasCommonDivisors_52 (fun H locs hI => ?_)
          have hs := gv_be hs
          refine lv_aload_n C.1 C.2.1 dX1_hasCommonDivisors_53 rfl (lv_at hl 1 rfl) ?_
          refine cg_X1_66 C hI dX1_hasCommonDivisors_54 ?_
          refine lv_iload_n C.1 C.2.1 dX1_hasCommonDivisors_57 rfl (lv_at hl 3 rfl) ?_
          refine lv_dup2_11 C.1 C.2.1 dX1_hasCommonDivisors_58 rfl rfl ?_
          obtain ⟨hk, hs⟩ := ck_e hs
          refine ca_66 C hI hk dX1_hasCommonDivisors_59 ?_
          refine lv_lload_n C.1 C.2.1 dX1_hasCommonDivisors_60 rfl (lv_at hl 2 rfl) ?_
          refine lv_lmul C.1 C.2.1 dX1_hasCommonDivisors_61 ?_
          obtain ⟨hk, hs⟩ := ck_e hs
          refine cs_66 C hI hk dX1_hasCommonDivisors_62 (fun H locs hI => ?_)
          have hs := gv_be hs
          refine lv_aload_n C.1 C.2.1 dX1_hasCommonDivisors_63 rfl (lv_at hl 1 rfl) ?_
          refine cg_X1_67 C hI dX1_hasCommonDivisors_64 ?_
          refine lv_iload_n C.1 C.2.1 dX1_hasCommonDivisors_67 rfl (lv_at hl 3 rfl) ?_
          refine lv_lload C.1 C.2.1 dX1_hasCommonDivisors_68 (lv_at hl 0 rfl) ?_
          refine lv_lload_n C.1 C.2.1 dX1_hasCommonDivisors_70 rfl (lv_at hl 2 rfl) ?_
          refine lv_lmul C.1 C.2.1 dX1_hasCommonDivisors_71 ?_
          obtain ⟨hk, hs⟩ := ck_e hs
          refine cs_67 C hI hk dX1_hasCommonDivisors_72 (fun H locs hI => ?_)
          have hs := gv_be hs
          obtain ⟨x3_73, ex3_73⟩ : ∃ y : Int32, y = (x3 + 1) := ⟨_, rfl⟩
          have hs := gv_at ex3_73 hs
          refine lv_iinc (v := x3_73) (lv' := [(3, .int x3_73), (4, .long x4_40), (0, .ref (q 2)), (1, .long x1)]) C.1 C.2.1 dX1_hasCommonDivisors_73 hl (k := 3) rfl (by rw [ex3_73]; rfl) (by decide) rfl (fun ls hl => ?_)
          refine lv_goto (tgt := 2) C.1 C.2.1 dX1_hasCommonDivisors_76 (by decide) ?_
          exact ih _ _ _ _ _ _ _ _ _ _ _ hs hI (lv_sub hl [2, 3, 0] rfl) kk0 kk1
        refine lv_if_ne (tgt := 29) C.1 C.2.1 dX1_hasCommonDivisors_13 (by decide) (fun cn => ?_) (fun cn => ?_)
        · have hs := if_f cn hs
          exact KJ_29 _ _ _ _ hs hI (lv_sub hl [0, 1, 2] rfl)
        · have hs := if_t cn hs
          refine lv_aload_n C.1 C.2.1 dX1_hasCommonDivisors_16 rfl (lv_at hl 0 rfl) ?_
          refine cg_X1_66 C hI dX1_hasCommonDivisors_17 ?_
          refine lv_iload_n C.1 C.2.1 dX1_hasCommonDivisors_20 rfl (lv_at hl 2 rfl) ?_
          obtain ⟨hk, hs⟩ := ck_e hs
          refine ca_66 C hI hk dX1_hasCommonDivisors_21 ?_
          refine lv_lconst (v := 0) C.1 C.2.1 dX1_hasCommonDivisors_22 (by decide) ?_
          refine W.lcmp C.1 C.2.1 dX1_hasCommonDivisors_23 ?_
          refine lv_if_eq (tgt := 29) C.1 C.2.1 dX1_hasCommonDivisors_24 (by decide) (fun cn => ?_) (fun cn => ?_)
          · have hs := if_t cn hs
            exact KJ_29 _ _ _ _ hs hI (lv_sub hl [0, 1, 2] rfl)
          · have hs := if_f cn hs
            have eo := (Option.some.inj hs).symm
            exact kk0 _ _ _ _ eo hI (lv_sub hl [] rfl)
  obtain ⟨o_2, hL, hs⟩ := bd_e hs
  refine KL_2 FU _ _ _ _ _ _ _ _ _ _ _ hL hI (lv_sub hl [1, 2, 0] rfl) (fun B H locs ls eo hI hl => ?_) (fun B H locs ls eo hI hl => ?_)
  · rw [eo] at hs
    refine lv_iconst (v := 0) C.1 C.2.1 dX1_hasCommonDivisors_27 (by decide) ?_
    obtain ⟨rfl, rfl⟩ := so2 hs
    exact C_zret C hI (by decide) dX1_hasCommonDivisors_28
  · rw [eo] at hs
    refine lv_iconst (v := 1) C.1 C.2.1 dX1_hasCommonDivisors_79 (by decide) ?_
    obtain ⟨rfl, rfl⟩ := so2 hs
    exact C_zret C hI (by decide) dX1_hasCommonDivisors_80

def sX1_faceOf (x0 : Int32) : Option ((Int32)) :=
some ((x0 / (2 : Int32)) - (x0 / (2 : Int32)) / (4 : Int32) * (4 : Int32))
set_option maxRecDepth 100000 in
set_option maxHeartbeats 8000000 in
theorem kX1_faceOf (l : Launch) (x0 : Int32) (r : Int32) (hs : sX1_faceOf x0 = some r) : McS l yX1_faceOf cX1_faceOf 1 (some .int) 0 [.int x0] (some (.int r)) := by
  refine S_start rfl (Nat.le_of_ble_eq_true rfl) ?_
  intro p e s m args below meth c H locs C hI ls hl
  have hl : lv_has ls 1 [(0, .int x0)] := hl
  rw [sX1_faceOf] at hs
  refine lv_iload_n C.1 C.2.1 dX1_faceOf_0 rfl (lv_at hl 0 rfl) ?_
  refine lv_iconst (v := 2) C.1 C.2.1 dX1_faceOf_1 (by decide) ?_
  refine lv_idiv C.1 C.2.1 dX1_faceOf_2 (by decide) ?_
  refine lv_iconst (v := 4) C.1 C.2.1 dX1_faceOf_3 (by decide) ?_
  refine lv_irem C.1 C.2.1 dX1_faceOf_4 (by decide) ?_
  obtain rfl := Option.some.inj hs
  exact S_iret C hI dX1_faceOf_5

def lX1_worstOfAll_9 : Nat → Int32 → Int64 → Int32 → (Nat → Int32) → (Nat → Int64) → (Nat → Nat → Int32) → (Nat → Nat → Int64) → Option (Int32)
  | 0, _, _, _, _, _, _, _ => none
  | n + 1, x1, x2, x4, I, J, A, B =>
    if (6 : Int32) ≤ x4 then
    (some x1)
    else
    ck (inB x4 6) <|
    if (lg_cmp (B 62 (ix x4)) x2) ≤ 0 then
    (gv (x4 + 1) fun x4_44 =>
    lX1_worstOfAll_9 n x1 x2 x4_44 I J A B)
    else
    ck (inB x4 6) <|
    gv (B 62 (ix x4)) fun x2_35 =>
    ck (inB x4 6) <|
    gv (A 61 (ix x4)) fun x1_43 =>
    gv (x4 + 1) fun x4_44 =>
    lX1_worstOfAll_9 n x1_43 x2_35 x4_44 I J A B
def sX1_worstOfAll (I : Nat → Int32) (J : Nat → Int64) (A : Nat → Nat → Int32) (B : Nat → Nat → Int64) : Option ((Int32)) :=
(lX1_worstOfAll_9 FU (-1 : Int32) (-1 : Int64) (0 : Int32) I J A B).bind fun x1_9 =>
some x1_9
set_option maxRecDepth 100000 in
set_option maxHeartbeats 8000000 in
theorem kX1_worstOfAll (l : Launch) (D : va_G) (cy : Nat → ClassId) (P0 : Nat → Prop) (q z : Nat → Nat) (tl : va_W) (xx : (Nat → Option Nat) × (Nat → Option Nat) × Nat) (I : Nat → Int32) (J : Nat → Int64) (A : Nat → Nat → Int32) (B : Nat → Nat → Int64) (r : Int32) (hs : sX1_worstOfAll I J A B = some r) : McC l yX1_worstOfAll cX1_worstOfAll 5 (some .int) 0 [.ref (q 2)] D cy P0 q z tl xx I J A B (some (.int r)) xx I J A B := by
  refine C_start rfl (Nat.le_of_ble_eq_true rfl) ?_
  intro p e s m args below meth c H locs C hI ls hl
  have hl : lv_has ls 5 [(0, .ref (q 2))] := hl
  rw [sX1_worstOfAll] at hs
  refine lv_iconst (v := -1) C.1 C.2.1 dX1_worstOfAll_0 (by decide) ?_
  refine lv_istore_n (lv' := [(1, .int (-1 : Int32)), (0, .ref (q 2))]) C.1 C.2.1 dX1_worstOfAll_1 rfl hl (by decide) rfl (fun ls hl => ?_)
  refine lv_ldc2 C.1 C.2.1 C.2.2.2.1 (C.2.2.2.2.1 _ kl_X1_130) dX1_worstOfAll_2 ?_
  refine lv_lstore_n (lv' := [(2, .long (-1 : Int64)), (1, .int (-1 : Int32)), (0, .ref (q 2))]) C.1 C.2.1 dX1_worstOfAll_5 rfl hl (by decide) rfl (fun ls hl => ?_)
  refine lv_iconst (v := 0) C.1 C.2.1 dX1_worstOfAll_6 (by decide) ?_
  refine lv_istore (lv' := [(4, .int (0 : Int32)), (2, .long (-1 : Int64)), (1, .int (-1 : Int32)), (0, .ref (q 2))]) C.1 C.2.1 dX1_worstOfAll_7 hl (by decide) rfl (fun ls hl => ?_)
  have KL_9 : ∀ (n : Nat) (x1 : Int32) (x2 : Int64) (x4 : Int32) (I : Nat → Int32) (J : Nat → Int64) (A : Nat → Nat → Int32) (B : Nat → Nat → Int64) (o : Int32) (Q : State → Prop) (H : Heap) (locs : List Loc) (ls : Array Slot), lX1_worstOfAll_9 n x1 x2 x4 I J A B = some o → CI D cy s P0 s.heap H locs q z tl xx I J A B → lv_has ls 5 [(0, .ref (q 2)), (1, .int x1), (2, .long x2), (4, .int x4)] → (∀ (o1_0 : Int32) (H : Heap) (locs : List Loc) (ls : Array Slot), o = o1_0 → CI D cy s P0 s.heap H locs q z tl xx I J A B → lv_has ls 5 [(1, .int o1_0)] → W p l e (rmL 0) s m args below meth c H locs 0 0 Q (F0 m 50 ls [])) → W p l e (rmL 0) s m args below meth c H locs 0 0 Q (F0 m 9 ls []) := by
    intro n; induction n with
    | zero => intro x1 x2 x4 I J A B o Q H locs ls hs; rw [lX1_worstOfAll_9] at hs; cases hs
    | succ n ih =>
      intro x1 x2 x4 I J A B o Q H locs ls hs hI hl kk0
      rw [lX1_worstOfAll_9] at hs
      refine lv_iload C.1 C.2.1 dX1_worstOfAll_9 (lv_at hl 3 rfl) ?_
      refine lv_bipush (v := 6) C.1 C.2.1 dX1_worstOfAll_11 (by decide) ?_
      refine lv_icmp_ge (tgt := 50) C.1 C.2.1 dX1_worstOfAll_13 (by decide) (fun cn => ?_) (fun cn => ?_)
      · have hs := if_t cn hs
        have eo := (Option.some.inj hs).symm
        exact kk0 _ _ _ _ eo hI (lv_sub hl [1] rfl)
      · have hs := if_f cn hs
        refine lv_aload_n C.1 C.2.1 dX1_worstOfAll_16 rfl (lv_at hl 0 rfl) ?_
        refine cg_X1_62 C hI dX1_worstOfAll_17 ?_
        refine lv_iload C.1 C.2.1 dX1_worstOfAll_20 (lv_at hl 3 rfl) ?_
        obtain ⟨hk, hs⟩ := ck_e hs
        refine ca_62 C hI hk dX1_worstOfAll_22 ?_
        refine lv_lload_n C.1 C.2.1 dX1_worstOfAll_23 rfl (lv_at hl 2 rfl) ?_
        refine W.lcmp C.1 C.2.1 dX1_worstOfAll_24 ?_
        refine lv_if_le (tgt := 44) C.1 C.2.1 dX1_worstOfAll_25 (by decide) (fun cn => ?_) (fun cn => ?_)
        · have hs := if_t cn hs
          obtain ⟨x4_44, ex4_44⟩ : ∃ y : Int32, y = (x4 + 1) := ⟨_, rfl⟩
          have hs := gv_at ex4_44 hs
          refine lv_iinc (v := x4_44) (lv' := [(4, .int x4_44), (0, .ref (q 2)), (1, .int x1), (2, .long x2)]) C.1 C.2.1 dX1_worstOfAll_44 hl (k := 3) rfl (by rw [ex4_44]; rfl) (by decide) rfl (fun ls hl => ?_)
          refine lv_goto (tgt := 9) C.1 C.2.1 dX1_worstOfAll_47 (by decide) ?_
          exact ih _ _ _ _ _ _ _ _ _ _ _ _ hs hI (lv_sub hl [1, 2, 3, 0] rfl) kk0
        · have hs := if_f cn hs
          refine lv_aload_n C.1 C.2.1 dX1_worstOfAll_28 rfl (lv_at hl 0 rfl) ?_
          refine cg_X1_62 C hI dX1_worstOfAll_29 ?_
          refine lv_iload C.1 C.2.1 dX1_worstOfAll_32 (lv_at hl 3 rfl) ?_
          obtain ⟨hk, hs⟩ := ck_e hs
          refine ca_62 C hI hk dX1_worstOfAll_34 ?_
          refine lv_topl (fun x2_35 ex2_35 => ?_)
          have hs := gv_at ex2_35 hs
          refine lv_lstore_n (lv' := [(2, .long x2_35), (0, .ref (q 2)), (1, .int x1), (4, .int x4)]) C.1 C.2.1 dX1_worstOfAll_35 rfl hl (by decide) rfl (fun ls hl => ?_)
          refine lv_aload_n C.1 C.2.1 dX1_worstOfAll_36 rfl (lv_at hl 1 rfl) ?_
          refine cg_X1_61 C hI dX1_worstOfAll_37 ?_
          refine lv_iload C.1 C.2.1 dX1_worstOfAll_40 (lv_at hl 3 rfl) ?_
          obtain ⟨hk, hs⟩ := ck_e hs
          refine ca_61 C hI hk dX1_worstOfAll_42 ?_
          refine lv_topi (fun x1_43 ex1_43 => ?_)
          have hs := gv_at ex1_43 hs
          refine lv_istore_n (lv' := [(1, .int x1_43), (2, .long x2_35), (0, .ref (q 2)), (4, .int x4)]) C.1 C.2.1 dX1_worstOfAll_43 rfl hl (by decide) rfl (fun ls hl => ?_)
          obtain ⟨x4_44, ex4_44⟩ : ∃ y : Int32, y = (x4 + 1) := ⟨_, rfl⟩
          have hs := gv_at ex4_44 hs
          refine lv_iinc (v := x4_44) (lv' := [(4, .int x4_44), (1, .int x1_43), (2, .long x2_35), (0, .ref (q 2))]) C.1 C.2.1 dX1_worstOfAll_44 hl (k := 3) rfl (by rw [ex4_44]; rfl) (by decide) rfl (fun ls hl => ?_)
          refine lv_goto (tgt := 9) C.1 C.2.1 dX1_worstOfAll_47 (by decide) ?_
          exact ih _ _ _ _ _ _ _ _ _ _ _ _ hs hI (lv_sub hl [3, 1, 2, 0] rfl) kk0
  obtain ⟨x1_9, hL, hs⟩ := bd_e hs
  refine KL_9 FU _ _ _ _ _ _ _ _ _ _ _ _ hL hI (lv_sub hl [3, 2, 1, 0] rfl) (fun z0 H locs ls eo hI hl => ?_)
  subst eo
  refine lv_iload_n C.1 C.2.1 dX1_worstOfAll_50 rfl (lv_at hl 0 rfl) ?_
  obtain rfl := Option.some.inj hs
  exact C_iret C hI dX1_worstOfAll_51

def lX1_allFalls_4 : Nat → Int32 → Int32 → (Nat → Int32) → (Nat → Int64) → (Nat → Nat → Int32) → (Nat → Nat → Int64) → Option (Int32)
  | 0, _, _, _, _, _, _ => none
  | n + 1, x1, x2, I, J, A, B =>
    if (6 : Int32) ≤ x2 then
    (some x1)
    else
    ck (inB x2 6) <|
    gv (x1 ||| (A 63 (ix x2))) fun x1_18 =>
    gv (x2 + 1) fun x2_19 =>
    lX1_allFalls_4 n x1_18 x2_19 I J A B
def sX1_allFalls (I : Nat → Int32) (J : Nat → Int64) (A : Nat → Nat → Int32) (B : Nat → Nat → Int64) : Option ((Int32)) :=
(lX1_allFalls_4 FU (0 : Int32) (0 : Int32) I J A B).bind fun x1_4 =>
some x1_4
set_option maxRecDepth 100000 in
set_option maxHeartbeats 8000000 in
theorem kX1_allFalls (l : Launch) (D : va_G) (cy : Nat → ClassId) (P0 : Nat → Prop) (q z : Nat → Nat) (tl : va_W) (xx : (Nat → Option Nat) × (Nat → Option Nat) × Nat) (I : Nat → Int32) (J : Nat → Int64) (A : Nat → Nat → Int32) (B : Nat → Nat → Int64) (r : Int32) (hs : sX1_allFalls I J A B = some r) : McC l yX1_allFalls cX1_allFalls 3 (some .int) 0 [.ref (q 2)] D cy P0 q z tl xx I J A B (some (.int r)) xx I J A B := by
  refine C_start rfl (Nat.le_of_ble_eq_true rfl) ?_
  intro p e s m args below meth c H locs C hI ls hl
  have hl : lv_has ls 3 [(0, .ref (q 2))] := hl
  rw [sX1_allFalls] at hs
  refine lv_iconst (v := 0) C.1 C.2.1 dX1_allFalls_0 (by decide) ?_
  refine lv_istore_n (lv' := [(1, .int (0 : Int32)), (0, .ref (q 2))]) C.1 C.2.1 dX1_allFalls_1 rfl hl (by decide) rfl (fun ls hl => ?_)
  refine lv_iconst (v := 0) C.1 C.2.1 dX1_allFalls_2 (by decide) ?_
  refine lv_istore_n (lv' := [(2, .int (0 : Int32)), (1, .int (0 : Int32)), (0, .ref (q 2))]) C.1 C.2.1 dX1_allFalls_3 rfl hl (by decide) rfl (fun ls hl => ?_)
  have KL_4 : ∀ (n : Nat) (x1 : Int32) (x2 : Int32) (I : Nat → Int32) (J : Nat → Int64) (A : Nat → Nat → Int32) (B : Nat → Nat → Int64) (o : Int32) (Q : State → Prop) (H : Heap) (locs : List Loc) (ls : Array Slot), lX1_allFalls_4 n x1 x2 I J A B = some o → CI D cy s P0 s.heap H locs q z tl xx I J A B → lv_has ls 3 [(0, .ref (q 2)), (1, .int x1), (2, .int x2)] → (∀ (o1_0 : Int32) (H : Heap) (locs : List Loc) (ls : Array Slot), o = o1_0 → CI D cy s P0 s.heap H locs q z tl xx I J A B → lv_has ls 3 [(1, .int o1_0)] → W p l e (rmL 0) s m args below meth c H locs 0 0 Q (F0 m 25 ls [])) → W p l e (rmL 0) s m args below meth c H locs 0 0 Q (F0 m 4 ls []) := by
    intro n; induction n with
    | zero => intro x1 x2 I J A B o Q H locs ls hs; rw [lX1_allFalls_4] at hs; cases hs
    | succ n ih =>
      intro x1 x2 I J A B o Q H locs ls hs hI hl kk0
      rw [lX1_allFalls_4] at hs
      refine lv_iload_n C.1 C.2.1 dX1_allFalls_4 rfl (lv_at hl 2 rfl) ?_
      refine lv_bipush (v := 6) C.1 C.2.1 dX1_allFalls_5 (by decide) ?_
      refine lv_icmp_ge (tgt := 25) C.1 C.2.1 dX1_allFalls_7 (by decide) (fun cn => ?_) (fun cn => ?_)
      · have hs := if_t cn hs
        have eo := (Option.some.inj hs).symm
        exact kk0 _ _ _ _ eo hI (lv_sub hl [1] rfl)
      · have hs := if_f cn hs
        refine lv_iload_n C.1 C.2.1 dX1_allFalls_10 rfl (lv_at hl 1 rfl) ?_
        refine lv_aload_n C.1 C.2.1 dX1_allFalls_11 rfl (lv_at hl 0 rfl) ?_
        refine cg_X1_63 C hI dX1_allFalls_12 ?_
        refine lv_iload_n C.1 C.2.1 dX1_allFalls_15 rfl (lv_at hl 2 rfl) ?_
        obtain ⟨hk, hs⟩ := ck_e hs
        refine ca_63 C hI hk dX1_allFalls_16 ?_
        refine lv_ior C.1 C.2.1 dX1_allFalls_17 ?_
        refine lv_topi (fun x1_18 ex1_18 => ?_)
        have hs := gv_at ex1_18 hs
        refine lv_istore_n (lv' := [(1, .int x1_18), (0, .ref (q 2)), (2, .int x2)]) C.1 C.2.1 dX1_allFalls_18 rfl hl (by decide) rfl (fun ls hl => ?_)
        obtain ⟨x2_19, ex2_19⟩ : ∃ y : Int32, y = (x2 + 1) := ⟨_, rfl⟩
        have hs := gv_at ex2_19 hs
        refine lv_iinc (v := x2_19) (lv' := [(2, .int x2_19), (1, .int x1_18), (0, .ref (q 2))]) C.1 C.2.1 dX1_allFalls_19 hl (k := 2) rfl (by rw [ex2_19]; rfl) (by decide) rfl (fun ls hl => ?_)
        refine lv_goto (tgt := 4) C.1 C.2.1 dX1_allFalls_22 (by decide) ?_
        exact ih _ _ _ _ _ _ _ _ _ _ _ hs hI (lv_sub hl [2, 1, 0] rfl) kk0
  obtain ⟨x1_4, hL, hs⟩ := bd_e hs
  refine KL_4 FU _ _ _ _ _ _ _ _ _ _ _ hL hI (lv_sub hl [2, 1, 0] rfl) (fun z0 H locs ls eo hI hl => ?_)
  subst eo
  refine lv_iload_n C.1 C.2.1 dX1_allFalls_25 rfl (lv_at hl 0 rfl) ?_
  obtain rfl := Option.some.inj hs
  exact C_iret C hI dX1_allFalls_26

def lX2_isWished_2 : Nat → Int32 → Int32 → (Nat → Int32) → (Nat → Int64) → (Nat → Nat → Int32) → (Nat → Nat → Int64) → Option ((Unit) ⊕ (Unit))
  | 0, _, _, _, _, _, _ => none
  | n + 1, x1, x2, I, J, A, B =>
    if (I 73) ≤ x2 then
    (some (.inr ()))
    else
    ck (inB x2 9) <|
    if (A 72 (ix x2)) = x1 then
    (some (.inl ()))
    else
    gv (x2 + 1) fun x2_22 =>
    lX2_isWished_2 n x1 x2_22 I J A B
def sX2_isWished (x1 : Int32) (I : Nat → Int32) (J : Nat → Int64) (A : Nat → Nat → Int32) (B : Nat → Nat → Int64) : Option ((Int32)) :=
(lX2_isWished_2 FU x1 (0 : Int32) I J A B).bind fun o_2 => match o_2 with
| .inl _ =>
some (1 : Int32)
| .inr _ =>
some (0 : Int32)
set_option maxRecDepth 100000 in
set_option maxHeartbeats 8000000 in
theorem kX2_isWished (l : Launch) (D : va_G) (cy : Nat → ClassId) (P0 : Nat → Prop) (q z : Nat → Nat) (tl : va_W) (xx : (Nat → Option Nat) × (Nat → Option Nat) × Nat) (x1 : Int32) (I : Nat → Int32) (J : Nat → Int64) (A : Nat → Nat → Int32) (B : Nat → Nat → Int64) (r : Int32) (hs : sX2_isWished x1 I J A B = some r) : McC l yX2_isWished cX2_isWished 3 (some .boolean) 0 [.ref (q 3), .int x1] D cy P0 q z tl xx I J A B (some (.int r)) xx I J A B := by
  refine C_start rfl (Nat.le_of_ble_eq_true rfl) ?_
  intro p e s m args below meth c H locs C hI ls hl
  have hl : lv_has ls 3 [(0, .ref (q 3)), (1, .int x1)] := hl
  rw [sX2_isWished] at hs
  refine lv_iconst (v := 0) C.1 C.2.1 dX2_isWished_0 (by decide) ?_
  refine lv_istore_n (lv' := [(2, .int (0 : Int32)), (0, .ref (q 3)), (1, .int x1)]) C.1 C.2.1 dX2_isWished_1 rfl hl (by decide) rfl (fun ls hl => ?_)
  have KL_2 : ∀ (n : Nat) (x1 : Int32) (x2 : Int32) (I : Nat → Int32) (J : Nat → Int64) (A : Nat → Nat → Int32) (B : Nat → Nat → Int64) (o : (Unit) ⊕ (Unit)) (Q : State → Prop) (H : Heap) (locs : List Loc) (ls : Array Slot), lX2_isWished_2 n x1 x2 I J A B = some o → CI D cy s P0 s.heap H locs q z tl xx I J A B → lv_has ls 3 [(0, .ref (q 3)), (1, .int x1), (2, .int x2)] → (∀ (H : Heap) (locs : List Loc) (ls : Array Slot), o = (.inl ()) → CI D cy s P0 s.heap H locs q z tl xx I J A B → lv_has ls 3 [] → W p l e (rmL 0) s m args below meth c H locs 0 0 Q (F0 m 20 ls [])) → (∀ (H : Heap) (locs : List Loc) (ls : Array Slot), o = (.inr ()) → CI D cy s P0 s.heap H locs q z tl xx I J A B → lv_has ls 3 [] → W p l e (rmL 0) s m args below meth c H locs 0 0 Q (F0 m 28 ls [])) → W p l e (rmL 0) s m args below meth c H locs 0 0 Q (F0 m 2 ls []) := by
    intro n; induction n with
    | zero => intro x1 x2 I J A B o Q H locs ls hs; rw [lX2_isWished_2] at hs; cases hs
    | succ n ih =>
      intro x1 x2 I J A B o Q H locs ls hs hI hl kk0 kk1
      rw [lX2_isWished_2] at hs
      refine lv_iload_n C.1 C.2.1 dX2_isWished_2 rfl (lv_at hl 2 rfl) ?_
      refine lv_aload_n C.1 C.2.1 dX2_isWished_3 rfl (lv_at hl 0 rfl) ?_
      refine cg_X2_73 C hI dX2_isWished_4 ?_
      refine lv_icmp_ge (tgt := 28) C.1 C.2.1 dX2_isWished_7 (by decide) (fun cn => ?_) (fun cn => ?_)
      · have hs := if_t cn hs
        have eo := (Option.some.inj hs).symm
        exact kk1  _ _ _ eo hI (lv_sub hl [] rfl)
      · have hs := if_f cn hs
        refine lv_aload_n C.1 C.2.1 dX2_isWished_10 rfl (lv_at hl 0 rfl) ?_
        refine cg_X2_72 C hI dX2_isWished_11 ?_
        refine lv_iload_n C.1 C.2.1 dX2_isWished_14 rfl (lv_at hl 2 rfl) ?_
        obtain ⟨hk, hs⟩ := ck_e hs
        refine ca_72 C hI hk dX2_isWished_15 ?_
        refine lv_iload_n C.1 C.2.1 dX2_isWished_16 rfl (lv_at hl 1 rfl) ?_
        refine lv_icmp_ne (tgt := 22) C.1 C.2.1 dX2_isWished_17 (by decide) (fun cn => ?_) (fun cn => ?_)
        · have hs := if_f cn hs
          obtain ⟨x2_22, ex2_22⟩ : ∃ y : Int32, y = (x2 + 1) := ⟨_, rfl⟩
          have hs := gv_at ex2_22 hs
          refine lv_iinc (v := x2_22) (lv' := [(2, .int x2_22), (0, .ref (q 3)), (1, .int x1)]) C.1 C.2.1 dX2_isWished_22 hl (k := 2) rfl (by rw [ex2_22]; rfl) (by decide) rfl (fun ls hl => ?_)
          refine lv_goto (tgt := 2) C.1 C.2.1 dX2_isWished_25 (by decide) ?_
          exact ih _ _ _ _ _ _ _ _ _ _ _ hs hI (lv_sub hl [1, 2, 0] rfl) kk0 kk1
        · have hs := if_t cn hs
          have eo := (Option.some.inj hs).symm
          exact kk0  _ _ _ eo hI (lv_sub hl [] rfl)
  obtain ⟨o_2, hL, hs⟩ := bd_e hs
  refine KL_2 FU _ _ _ _ _ _ _ _ _ _ _ hL hI (lv_sub hl [1, 2, 0] rfl) (fun H locs ls eo hI hl => ?_) (fun H locs ls eo hI hl => ?_)
  · rw [eo] at hs
    refine lv_iconst (v := 1) C.1 C.2.1 dX2_isWished_20 (by decide) ?_
    obtain rfl := Option.some.inj hs
    exact C_zret C hI (by decide) dX2_isWished_21
  · rw [eo] at hs
    refine lv_iconst (v := 0) C.1 C.2.1 dX2_isWished_28 (by decide) ?_
    obtain rfl := Option.some.inj hs
    exact C_zret C hI (by decide) dX2_isWished_29

def lX2_canBe_2 : Nat → Int32 → (Nat → Int32) → (Nat → Int64) → (Nat → Nat → Int32) → (Nat → Nat → Int64) → Option ((Unit) ⊕ (Unit))
  | 0, _, _, _, _, _ => none
  | n + 1, x1, I, J, A, B =>
    if (I 73) ≤ x1 then
    (some (.inr ()))
    else
    ck (inB x1 9) <|
    ck (inB (A 72 (ix x1)) 48) <|
    if (A 11 (ix (A 72 (ix x1)))) = 0 then
    (some (.inl ()))
    else
    gv (x1 + 1) fun x1_29 =>
    lX2_canBe_2 n x1_29 I J A B
def sX2_canBe (I : Nat → Int32) (J : Nat → Int64) (A : Nat → Nat → Int32) (B : Nat → Nat → Int64) : Option ((Int32)) :=
(lX2_canBe_2 FU (0 : Int32) I J A B).bind fun o_2 => match o_2 with
| .inl _ =>
some (0 : Int32)
| .inr _ =>
gv (if (I 73) ≤ 0 then (0 : Int32) else (1 : Int32)) fun v_47 =>
some v_47
set_option maxRecDepth 100000 in
set_option maxHeartbeats 8000000 in
theorem kX2_canBe (l : Launch) (D : va_G) (cy : Nat → ClassId) (P0 : Nat → Prop) (q z : Nat → Nat) (tl : va_W) (xx : (Nat → Option Nat) × (Nat → Option Nat) × Nat) (I : Nat → Int32) (J : Nat → Int64) (A : Nat → Nat → Int32) (B : Nat → Nat → Int64) (r : Int32) (hs : sX2_canBe I J A B = some r) : McC l yX2_canBe cX2_canBe 2 (some .boolean) 0 [.ref (q 3)] D cy P0 q z tl xx I J A B (some (.int r)) xx I J A B := by
  refine C_start rfl (Nat.le_of_ble_eq_true rfl) ?_
  intro p e s m args below meth c H locs C hI ls hl
  have hl : lv_has ls 2 [(0, .ref (q 3))] := hl
  rw [sX2_canBe] at hs
  refine lv_iconst (v := 0) C.1 C.2.1 dX2_canBe_0 (by decide) ?_
  refine lv_istore_n (lv' := [(1, .int (0 : Int32)), (0, .ref (q 3))]) C.1 C.2.1 dX2_canBe_1 rfl hl (by decide) rfl (fun ls hl => ?_)
  have KL_2 : ∀ (n : Nat) (x1 : Int32) (I : Nat → Int32) (J : Nat → Int64) (A : Nat → Nat → Int32) (B : Nat → Nat → Int64) (o : (Unit) ⊕ (Unit)) (Q : State → Prop) (H : Heap) (locs : List Loc) (ls : Array Slot), lX2_canBe_2 n x1 I J A B = some o → CI D cy s P0 s.heap H locs q z tl xx I J A B → lv_has ls 2 [(0, .ref (q 3)), (1, .int x1)] → (∀ (H : Heap) (locs : List Loc) (ls : Array Slot), o = (.inl ()) → CI D cy s P0 s.heap H locs q z tl xx I J A B → lv_has ls 2 [] → W p l e (rmL 0) s m args below meth c H locs 0 0 Q (F0 m 27 ls [])) → (∀ (H : Heap) (locs : List Loc) (ls : Array Slot), o = (.inr ()) → CI D cy s P0 s.heap H locs q z tl xx I J A B → lv_has ls 2 [(0, .ref (q 3))] → W p l e (rmL 0) s m args below meth c H locs 0 0 Q (F0 m 35 ls [])) → W p l e (rmL 0) s m args below meth c H locs 0 0 Q (F0 m 2 ls []) := by
    intro n; induction n with
    | zero => intro x1 I J A B o Q H locs ls hs; rw [lX2_canBe_2] at hs; cases hs
    | succ n ih =>
      intro x1 I J A B o Q H locs ls hs hI hl kk0 kk1
      rw [lX2_canBe_2] at hs
      refine lv_iload_n C.1 C.2.1 dX2_canBe_2 rfl (lv_at hl 1 rfl) ?_
      refine lv_aload_n C.1 C.2.1 dX2_canBe_3 rfl (lv_at hl 0 rfl) ?_
      refine cg_X2_73 C hI dX2_canBe_4 ?_
      refine lv_icmp_ge (tgt := 35) C.1 C.2.1 dX2_canBe_7 (by decide) (fun cn => ?_) (fun cn => ?_)
      · have hs := if_t cn hs
        have eo := (Option.some.inj hs).symm
        exact kk1  _ _ _ eo hI (lv_sub hl [0] rfl)
      · have hs := if_f cn hs
        refine lv_aload_n C.1 C.2.1 dX2_canBe_10 rfl (lv_at hl 0 rfl) ?_
        refine cg_X2_70 C hI dX2_canBe_11 ?_
        refine cg_X2_11 C hI dX2_canBe_14 ?_
        refine lv_aload_n C.1 C.2.1 dX2_canBe_17 rfl (lv_at hl 0 rfl) ?_
        refine cg_X2_72 C hI dX2_canBe_18 ?_
        refine lv_iload_n C.1 C.2.1 dX2_canBe_21 rfl (lv_at hl 1 rfl) ?_
        obtain ⟨hk, hs⟩ := ck_e hs
        refine ca_72 C hI hk dX2_canBe_22 ?_
        obtain ⟨hk, hs⟩ := ck_e hs
        refine ca_11 C hI hk dX2_canBe_23 ?_
        refine lv_if_ne (tgt := 29) C.1 C.2.1 dX2_canBe_24 (by decide) (fun cn => ?_) (fun cn => ?_)
        · have hs := if_f cn hs
          obtain ⟨x1_29, ex1_29⟩ : ∃ y : Int32, y = (x1 + 1) := ⟨_, rfl⟩
          have hs := gv_at ex1_29 hs
          refine lv_iinc (v := x1_29) (lv' := [(1, .int x1_29), (0, .ref (q 3))]) C.1 C.2.1 dX2_canBe_29 hl (k := 1) rfl (by rw [ex1_29]; rfl) (by decide) rfl (fun ls hl => ?_)
          refine lv_goto (tgt := 2) C.1 C.2.1 dX2_canBe_32 (by decide) ?_
          exact ih _ _ _ _ _ _ _ _ _ _ hs hI (lv_sub hl [1, 0] rfl) kk0 kk1
        · have hs := if_t cn hs
          have eo := (Option.some.inj hs).symm
          exact kk0  _ _ _ eo hI (lv_sub hl [] rfl)
  obtain ⟨o_2, hL, hs⟩ := bd_e hs
  refine KL_2 FU _ _ _ _ _ _ _ _ _ _ hL hI (lv_sub hl [1, 0] rfl) (fun H locs ls eo hI hl => ?_) (fun H locs ls eo hI hl => ?_)
  · rw [eo] at hs
    refine lv_iconst (v := 0) C.1 C.2.1 dX2_canBe_27 (by decide) ?_
    obtain rfl := Option.some.inj hs
    exact C_zret C hI (by decide) dX2_canBe_28
  · rw [eo] at hs
    refine lv_aload_n C.1 C.2.1 dX2_canBe_35 rfl (lv_at hl 0 rfl) ?_
    refine cg_X2_73 C hI dX2_canBe_36 ?_
    obtain ⟨v_47, ev_47, hs⟩ := gv_ex hs
    have KP_47 : W p l e (rmL 0) s m args below meth c H locs 0 0 (MQ below (cQ D cy P0 q tl (some (.int r)) xx I J A B) args s 0 0 P0) (F0 m 47 ls [.int v_47]) := by
      obtain rfl := Option.some.inj hs
      exact C_zret C hI (isB_ev ev_47 (by (repeat' split) <;> decide)) dX2_canBe_47
    refine lv_if_le (tgt := 46) C.1 C.2.1 dX2_canBe_39 (by decide) (fun cn => ?_) (fun cn => ?_)
    · have ev_47 := if_t' cn ev_47
      refine lv_iconst (v := 0) C.1 C.2.1 dX2_canBe_46 (by decide) ?_
      subst ev_47
      exact KP_47
    · have ev_47 := if_f' cn ev_47
      refine lv_iconst (v := 1) C.1 C.2.1 dX2_canBe_42 (by decide) ?_
      refine lv_goto (tgt := 47) C.1 C.2.1 dX2_canBe_43 (by decide) ?_
      subst ev_47
      exact KP_47

def lX2_wishesIn_4 : Nat → Int32 → Int32 → Int32 → (Nat → Int32) → (Nat → Int64) → (Nat → Nat → Int32) → (Nat → Nat → Int64) → Option (Int32)
  | 0, _, _, _, _, _, _, _ => none
  | n + 1, x1, x2, x3, I, J, A, B =>
    if (I 73) ≤ x3 then
    (some x2)
    else
    ck (inB x3 9) <|
    gv (if ((A 72 (ix x3)) / (8 : Int32)) = x1 then ((1 : Int32) <<< (x3 &&& 31)) else (0 : Int32)) fun v_33 =>
    gv (x2 ||| v_33) fun x2_34 =>
    gv (x3 + 1) fun x3_35 =>
    lX2_wishesIn_4 n x1 x2_34 x3_35 I J A B
def sX2_wishesIn (x1 : Int32) (I : Nat → Int32) (J : Nat → Int64) (A : Nat → Nat → Int32) (B : Nat → Nat → Int64) : Option ((Int32)) :=
(lX2_wishesIn_4 FU x1 (0 : Int32) (0 : Int32) I J A B).bind fun x2_4 =>
some x2_4
set_option maxRecDepth 100000 in
set_option maxHeartbeats 8000000 in
theorem kX2_wishesIn (l : Launch) (D : va_G) (cy : Nat → ClassId) (P0 : Nat → Prop) (q z : Nat → Nat) (tl : va_W) (xx : (Nat → Option Nat) × (Nat → Option Nat) × Nat) (x1 : Int32) (I : Nat → Int32) (J : Nat → Int64) (A : Nat → Nat → Int32) (B : Nat → Nat → Int64) (r : Int32) (hs : sX2_wishesIn x1 I J A B = some r) : McC l yX2_wishesIn cX2_wishesIn 4 (some .int) 0 [.ref (q 3), .int x1] D cy P0 q z tl xx I J A B (some (.int r)) xx I J A B := by
  refine C_start rfl (Nat.le_of_ble_eq_true rfl) ?_
  intro p e s m args below meth c H locs C hI ls hl
  have hl : lv_has ls 4 [(0, .ref (q 3)), (1, .int x1)] := hl
  rw [sX2_wishesIn] at hs
  refine lv_iconst (v := 0) C.1 C.2.1 dX2_wishesIn_0 (by decide) ?_
  refine lv_istore_n (lv' := [(2, .int (0 : Int32)), (0, .ref (q 3)), (1, .int x1)]) C.1 C.2.1 dX2_wishesIn_1 rfl hl (by decide) rfl (fun ls hl => ?_)
  refine lv_iconst (v := 0) C.1 C.2.1 dX2_wishesIn_2 (by decide) ?_
  refine lv_istore_n (lv' := [(3, .int (0 : Int32)), (2, .int (0 : Int32)), (0, .ref (q 3)), (1, .int x1)]) C.1 C.2.1 dX2_wishesIn_3 rfl hl (by decide) rfl (fun ls hl => ?_)
  have KL_4 : ∀ (n : Nat) (x1 : Int32) (x2 : Int32) (x3 : Int32) (I : Nat → Int32) (J : Nat → Int64) (A : Nat → Nat → Int32) (B : Nat → Nat → Int64) (o : Int32) (Q : State → Prop) (H : Heap) (locs : List Loc) (ls : Array Slot), lX2_wishesIn_4 n x1 x2 x3 I J A B = some o → CI D cy s P0 s.heap H locs q z tl xx I J A B → lv_has ls 4 [(0, .ref (q 3)), (1, .int x1), (2, .int x2), (3, .int x3)] → (∀ (o2_0 : Int32) (H : Heap) (locs : List Loc) (ls : Array Slot), o = o2_0 → CI D cy s P0 s.heap H locs q z tl xx I J A B → lv_has ls 4 [(2, .int o2_0)] → W p l e (rmL 0) s m args below meth c H locs 0 0 Q (F0 m 41 ls [])) → W p l e (rmL 0) s m args below meth c H locs 0 0 Q (F0 m 4 ls []) := by
    intro n; induction n with
    | zero => intro x1 x2 x3 I J A B o Q H locs ls hs; rw [lX2_wishesIn_4] at hs; cases hs
    | succ n ih =>
      intro x1 x2 x3 I J A B o Q H locs ls hs hI hl kk0
      rw [lX2_wishesIn_4] at hs
      refine lv_iload_n C.1 C.2.1 dX2_wishesIn_4 rfl (lv_at hl 3 rfl) ?_
      refine lv_aload_n C.1 C.2.1 dX2_wishesIn_5 rfl (lv_at hl 0 rfl) ?_
      refine cg_X2_73 C hI dX2_wishesIn_6 ?_
      refine lv_icmp_ge (tgt := 41) C.1 C.2.1 dX2_wishesIn_9 (by decide) (fun cn => ?_) (fun cn => ?_)
      · have hs := if_t cn hs
        have eo := (Option.some.inj hs).symm
        exact kk0 _ _ _ _ eo hI (lv_sub hl [2] rfl)
      · have hs := if_f cn hs
        refine lv_iload_n C.1 C.2.1 dX2_wishesIn_12 rfl (lv_at hl 2 rfl) ?_
        refine lv_aload_n C.1 C.2.1 dX2_wishesIn_13 rfl (lv_at hl 0 rfl) ?_
        refine cg_X2_72 C hI dX2_wishesIn_14 ?_
        refine lv_iload_n C.1 C.2.1 dX2_wishesIn_17 rfl (lv_at hl 3 rfl) ?_
        obtain ⟨hk, hs⟩ := ck_e hs
        refine ca_72 C hI hk dX2_wishesIn_18 ?_
        refine lv_bipush (v := 8) C.1 C.2.1 dX2_wishesIn_19 (by decide) ?_
        refine lv_idiv C.1 C.2.1 dX2_wishesIn_21 (by decide) ?_
        refine lv_iload_n C.1 C.2.1 dX2_wishesIn_22 rfl (lv_at hl 1 rfl) ?_
        obtain ⟨v_33, ev_33, hs⟩ := gv_ex hs
        have KP_33 : W p l e (rmL 0) s m args below meth c H locs 0 0 Q (F0 m 33 ls [.int v_33, .int x2]) := by
          refine lv_ior C.1 C.2.1 dX2_wishesIn_33 ?_
          refine lv_topi (fun x2_34 ex2_34 => ?_)
          have hs := gv_at ex2_34 hs
          refine lv_istore_n (lv' := [(2, .int x2_34), (0, .ref (q 3)), (1, .int x1), (3, .int x3)]) C.1 C.2.1 dX2_wishesIn_34 rfl hl (by decide) rfl (fun ls hl => ?_)
          obtain ⟨x3_35, ex3_35⟩ : ∃ y : Int32, y = (x3 + 1) := ⟨_, rfl⟩
          have hs := gv_at ex3_35 hs
          refine lv_iinc (v := x3_35) (lv' := [(3, .int x3_35), (2, .int x2_34), (0, .ref (q 3)), (1, .int x1)]) C.1 C.2.1 dX2_wishesIn_35 hl (k := 3) rfl (by rw [ex3_35]; rfl) (by decide) rfl (fun ls hl => ?_)
          refine lv_goto (tgt := 4) C.1 C.2.1 dX2_wishesIn_38 (by decide) ?_
          exact ih _ _ _ _ _ _ _ _ _ _ _ _ hs hI (lv_sub hl [2, 3, 1, 0] rfl) kk0
        refine lv_icmp_ne (tgt := 32) C.1 C.2.1 dX2_wishesIn_23 (by decide) (fun cn => ?_) (fun cn => ?_)
        · have ev_33 := if_f' cn ev_33
          refine lv_iconst (v := 0) C.1 C.2.1 dX2_wishesIn_32 (by decide) ?_
          subst ev_33
          exact KP_33
        · have ev_33 := if_t' cn ev_33
          refine lv_iconst (v := 1) C.1 C.2.1 dX2_wishesIn_26 (by decide) ?_
          refine lv_iload_n C.1 C.2.1 dX2_wishesIn_27 rfl (lv_at hl 3 rfl) ?_
          refine lv_ishl C.1 C.2.1 dX2_wishesIn_28 ?_
          refine lv_goto (tgt := 33) C.1 C.2.1 dX2_wishesIn_29 (by decide) ?_
          subst ev_33
          exact KP_33
  obtain ⟨x2_4, hL, hs⟩ := bd_e hs
  refine KL_4 FU _ _ _ _ _ _ _ _ _ _ _ _ hL hI (lv_sub hl [2, 3, 1, 0] rfl) (fun z0 H locs ls eo hI hl => ?_)
  subst eo
  refine lv_iload_n C.1 C.2.1 dX2_wishesIn_41 rfl (lv_at hl 0 rfl) ?_
  obtain rfl := Option.some.inj hs
  exact C_iret C hI dX2_wishesIn_42

def sX3_isLetter (x0 : Int32) : Option ((Int32)) :=
gv (if x0 < (97 : Int32) then (0 : Int32) else (if (122 : Int32) < x0 then (0 : Int32) else (1 : Int32))) fun v_17 =>
some v_17
set_option maxRecDepth 100000 in
set_option maxHeartbeats 8000000 in
theorem kX3_isLetter (l : Launch) (x0 : Int32) (r : Int32) (hs : sX3_isLetter x0 = some r) : McS l yX3_isLetter cX3_isLetter 1 (some .boolean) 0 [.int x0] (some (.int r)) := by
  refine S_start rfl (Nat.le_of_ble_eq_true rfl) ?_
  intro p e s m args below meth c H locs C hI ls hl
  have hl : lv_has ls 1 [(0, .int x0)] := hl
  rw [sX3_isLetter] at hs
  refine lv_iload_n C.1 C.2.1 dX3_isLetter_0 rfl (lv_at hl 0 rfl) ?_
  refine lv_bipush (v := 97) C.1 C.2.1 dX3_isLetter_1 (by decide) ?_
  obtain ⟨v_17, ev_17, hs⟩ := gv_ex hs
  have KP_17 : W p l e (rmL 0) s m args below meth c H locs 0 0 (MQ below (fun _ st oc t => oc = .returned (some (.int r)) ∧ t.heap = st.heap) args s 0 0 (fun _ => False)) (F0 m 17 ls [.int v_17]) := by
    obtain rfl := Option.some.inj hs
    exact S_zret C hI (isB_ev ev_17 (by (repeat' split) <;> decide)) dX3_isLetter_17
  refine lv_icmp_lt (tgt := 16) C.1 C.2.1 dX3_isLetter_3 (by decide) (fun cn => ?_) (fun cn => ?_)
  · have ev_17 := if_t' cn ev_17
    refine lv_iconst (v := 0) C.1 C.2.1 dX3_isLetter_16 (by decide) ?_
    subst ev_17
    exact KP_17
  · have ev_17 := if_f' cn ev_17
    refine lv_iload_n C.1 C.2.1 dX3_isLetter_6 rfl (lv_at hl 0 rfl) ?_
    refine lv_bipush (v := 122) C.1 C.2.1 dX3_isLetter_7 (by decide) ?_
    refine lv_icmp_gt (tgt := 16) C.1 C.2.1 dX3_isLetter_9 (by decide) (fun cn => ?_) (fun cn => ?_)
    · have ev_17 := if_t' cn ev_17
      refine lv_iconst (v := 0) C.1 C.2.1 dX3_isLetter_16 (by decide) ?_
      subst ev_17
      exact KP_17
    · have ev_17 := if_f' cn ev_17
      refine lv_iconst (v := 1) C.1 C.2.1 dX3_isLetter_12 (by decide) ?_
      refine lv_goto (tgt := 17) C.1 C.2.1 dX3_isLetter_13 (by decide) ?_
      subst ev_17
      exact KP_17

def sX3_isDigit (x0 : Int32) : Option ((Int32)) :=
gv (if x0 < (48 : Int32) then (0 : Int32) else (if (57 : Int32) < x0 then (0 : Int32) else (1 : Int32))) fun v_17 =>
some v_17
set_option maxRecDepth 100000 in
set_option maxHeartbeats 8000000 in
theorem kX3_isDigit (l : Launch) (x0 : Int32) (r : Int32) (hs : sX3_isDigit x0 = some r) : McS l yX3_isDigit cX3_isDigit 1 (some .boolean) 0 [.int x0] (some (.int r)) := by
  refine S_start rfl (Nat.le_of_ble_eq_true rfl) ?_
  intro p e s m args below meth c H locs C hI ls hl
  have hl : lv_has ls 1 [(0, .int x0)] := hl
  rw [sX3_isDigit] at hs
  refine lv_iload_n C.1 C.2.1 dX3_isDigit_0 rfl (lv_at hl 0 rfl) ?_
  refine lv_bipush (v := 48) C.1 C.2.1 dX3_isDigit_1 (by decide) ?_
  obtain ⟨v_17, ev_17, hs⟩ := gv_ex hs
  have KP_17 : W p l e (rmL 0) s m args below meth c H locs 0 0 (MQ below (fun _ st oc t => oc = .returned (some (.int r)) ∧ t.heap = st.heap) args s 0 0 (fun _ => False)) (F0 m 17 ls [.int v_17]) := by
    obtain rfl := Option.some.inj hs
    exact S_zret C hI (isB_ev ev_17 (by (repeat' split) <;> decide)) dX3_isDigit_17
  refine lv_icmp_lt (tgt := 16) C.1 C.2.1 dX3_isDigit_3 (by decide) (fun cn => ?_) (fun cn => ?_)
  · have ev_17 := if_t' cn ev_17
    refine lv_iconst (v := 0) C.1 C.2.1 dX3_isDigit_16 (by decide) ?_
    subst ev_17
    exact KP_17
  · have ev_17 := if_f' cn ev_17
    refine lv_iload_n C.1 C.2.1 dX3_isDigit_6 rfl (lv_at hl 0 rfl) ?_
    refine lv_bipush (v := 57) C.1 C.2.1 dX3_isDigit_7 (by decide) ?_
    refine lv_icmp_gt (tgt := 16) C.1 C.2.1 dX3_isDigit_9 (by decide) (fun cn => ?_) (fun cn => ?_)
    · have ev_17 := if_t' cn ev_17
      refine lv_iconst (v := 0) C.1 C.2.1 dX3_isDigit_16 (by decide) ?_
      subst ev_17
      exact KP_17
    · have ev_17 := if_f' cn ev_17
      refine lv_iconst (v := 1) C.1 C.2.1 dX3_isDigit_12 (by decide) ?_
      refine lv_goto (tgt := 17) C.1 C.2.1 dX3_isDigit_13 (by decide) ?_
      subst ev_17
      exact KP_17

def sX3_write (x1 : Int32) (x2 : Int32) (I : Nat → Int32) (J : Nat → Int64) (A : Nat → Nat → Int32) (B : Nat → Nat → Int64) : Option ((Nat → Int32) × (Nat → Nat → Int32)) :=
if (400 : Int32) ≤ ((I 90) + (1 : Int32)) then
(some (I, A))
else
ck (inB (I 90) 400) <|
gv (va_up A 89 (upd (A 89) (ix (I 90)) x1)) fun A =>
ck (inB ((I 90) + (1 : Int32)) 400) <|
gv (va_up A 89 (upd (A 89) (ix ((I 90) + (1 : Int32))) x2)) fun A =>
gv (upd I 90 ((I 90) + (2 : Int32))) fun I =>
some (I, A)
set_option maxRecDepth 100000 in
set_option maxHeartbeats 8000000 in
theorem kX3_write (l : Launch) (D : va_G) (cy : Nat → ClassId) (P0 : Nat → Prop) (q z : Nat → Nat) (tl : va_W) (xx : (Nat → Option Nat) × (Nat → Option Nat) × Nat) (x1 : Int32) (x2 : Int32) (I : Nat → Int32) (J : Nat → Int64) (A : Nat → Nat → Int32) (B : Nat → Nat → Int64) (I2 : Nat → Int32) (A2 : Nat → Nat → Int32) (hs : sX3_write x1 x2 I J A B = some (I2, A2)) : McC l yX3_write cX3_write 3 none 0 [.ref (q 4), .int x1, .int x2] D cy P0 q z tl (xx.1, xx.2.1, q 6) I J A B none (xx.1, xx.2.1, q 6) I2 J A2 B := by
  refine C_start rfl (Nat.le_of_ble_eq_true rfl) ?_
  intro p e s m args below meth c H locs C hI ls hl
  have hl : lv_has ls 3 [(0, .ref (q 4)), (1, .int x1), (2, .int x2)] := hl
  rw [sX3_write] at hs
  refine lv_aload_n C.1 C.2.1 dX3_write_0 rfl (lv_at hl 0 rfl) ?_
  refine cg_X3_90 C hI dX3_write_1 ?_
  refine lv_iconst (v := 1) C.1 C.2.1 dX3_write_4 (by decide) ?_
  refine lv_iadd C.1 C.2.1 dX3_write_5 ?_
  refine lv_sipush (v := 400) C.1 C.2.1 dX3_write_6 (by decide) ?_
  refine lv_icmp_ge (tgt := 44) C.1 C.2.1 dX3_write_9 (by decide) (fun cn => ?_) (fun cn => ?_)
  · have hs := if_t cn hs
    obtain ⟨rfl, rfl⟩ := so2 hs
    exact C_vret C hI dX3_write_44
  · have hs := if_f cn hs
    refine lv_aload_n C.1 C.2.1 dX3_write_12 rfl (lv_at hl 0 rfl) ?_
    refine cg_X3_89 C hI dX3_write_13 ?_
    refine lv_aload_n C.1 C.2.1 dX3_write_16 rfl (lv_at hl 0 rfl) ?_
    refine cg_X3_90 C hI dX3_write_17 ?_
    refine lv_iload_n C.1 C.2.1 dX3_write_20 rfl (lv_at hl 1 rfl) ?_
    obtain ⟨hk, hs⟩ := ck_e hs
    refine cs_89 C hI hk dX3_write_21 (fun H locs hI => ?_)
    have hs := gv_be hs
    refine lv_aload_n C.1 C.2.1 dX3_write_22 rfl (lv_at hl 0 rfl) ?_
    refine cg_X3_89 C hI dX3_write_23 ?_
    refine lv_aload_n C.1 C.2.1 dX3_write_26 rfl (lv_at hl 0 rfl) ?_
    refine cg_X3_90 C hI dX3_write_27 ?_
    refine lv_iconst (v := 1) C.1 C.2.1 dX3_write_30 (by decide) ?_
    refine lv_iadd C.1 C.2.1 dX3_write_31 ?_
    refine lv_iload_n C.1 C.2.1 dX3_write_32 rfl (lv_at hl 2 rfl) ?_
    obtain ⟨hk, hs⟩ := ck_e hs
    refine cs_89 C hI hk dX3_write_33 (fun H locs hI => ?_)
    have hs := gv_be hs
    refine lv_aload_n C.1 C.2.1 dX3_write_34 rfl (lv_at hl 0 rfl) ?_
    refine lv_dup C.1 C.2.1 dX3_write_35 rfl ?_
    refine cg_X3_90 C hI dX3_write_36 ?_
    refine lv_iconst (v := 2) C.1 C.2.1 dX3_write_39 (by decide) ?_
    refine lv_iadd C.1 C.2.1 dX3_write_40 ?_
    refine cp_X3_90 C hI dX3_write_41 (fun H locs hI => ?_)
    have hs := gv_be hs
    obtain ⟨rfl, rfl⟩ := so2 hs
    exact C_vret C hI dX3_write_44

def sX3_noteClause (x1 : Int32) (x2 : Int32) (x3 : Int32) (I : Nat → Int32) (J : Nat → Int64) (A : Nat → Nat → Int32) (B : Nat → Nat → Int64) : Option ((Nat → Int32) × (Nat → Nat → Int32)) :=
gv ((I 88) * (4 : Int32)) fun x4_6 =>
if (48 : Int32) < (x4_6 + (4 : Int32)) then
(some (I, A))
else
ck (inB (x4_6 + (0 : Int32)) 48) <|
gv (va_up A 87 (upd (A 87) (ix (x4_6 + (0 : Int32))) x1)) fun A =>
ck (inB (x4_6 + (1 : Int32)) 48) <|
gv (va_up A 87 (upd (A 87) (ix (x4_6 + (1 : Int32))) x2)) fun A =>
ck (inB (x4_6 + (2 : Int32)) 48) <|
gv (va_up A 87 (upd (A 87) (ix (x4_6 + (2 : Int32))) x3)) fun A =>
ck (inB (x4_6 + (3 : Int32)) 48) <|
gv (va_up A 87 (upd (A 87) (ix (x4_6 + (3 : Int32))) (I 90))) fun A =>
gv (upd I 88 ((I 88) + (1 : Int32))) fun I =>
some (I, A)
set_option maxRecDepth 100000 in
set_option maxHeartbeats 8000000 in
theorem kX3_noteClause (l : Launch) (D : va_G) (cy : Nat → ClassId) (P0 : Nat → Prop) (q z : Nat → Nat) (tl : va_W) (xx : (Nat → Option Nat) × (Nat → Option Nat) × Nat) (x1 : Int32) (x2 : Int32) (x3 : Int32) (I : Nat → Int32) (J : Nat → Int64) (A : Nat → Nat → Int32) (B : Nat → Nat → Int64) (I2 : Nat → Int32) (A2 : Nat → Nat → Int32) (hs : sX3_noteClause x1 x2 x3 I J A B = some (I2, A2)) : McC l yX3_noteClause cX3_noteClause 5 none 0 [.ref (q 4), .int x1, .int x2, .int x3] D cy P0 q z tl (xx.1, xx.2.1, q 6) I J A B none (xx.1, xx.2.1, q 6) I2 J A2 B := by
  refine C_start rfl (Nat.le_of_ble_eq_true rfl) ?_
  intro p e s m args below meth c H locs C hI ls hl
  have hl : lv_has ls 5 [(0, .ref (q 4)), (1, .int x1), (2, .int x2), (3, .int x3)] := hl
  rw [sX3_noteClause] at hs
  refine lv_aload_n C.1 C.2.1 dX3_noteClause_0 rfl (lv_at hl 0 rfl) ?_
  refine cg_X3_88 C hI dX3_noteClause_1 ?_
  refine lv_iconst (v := 4) C.1 C.2.1 dX3_noteClause_4 (by decide) ?_
  refine lv_imul C.1 C.2.1 dX3_noteClause_5 ?_
  refine lv_topi (fun x4_6 ex4_6 => ?_)
  have hs := gv_at ex4_6 hs
  refine lv_istore (lv' := [(4, .int x4_6), (0, .ref (q 4)), (1, .int x1), (2, .int x2), (3, .int x3)]) C.1 C.2.1 dX3_noteClause_6 hl (by decide) rfl (fun ls hl => ?_)
  refine lv_iload C.1 C.2.1 dX3_noteClause_8 (lv_at hl 0 rfl) ?_
  refine lv_iconst (v := 4) C.1 C.2.1 dX3_noteClause_10 (by decide) ?_
  refine lv_iadd C.1 C.2.1 dX3_noteClause_11 ?_
  refine lv_aload_n C.1 C.2.1 dX3_noteClause_12 rfl (lv_at hl 1 rfl) ?_
  refine cg_X3_87 C hI dX3_noteClause_13 ?_
  refine cl_87 C hI dX3_noteClause_16 ?_
  refine lv_icmp_gt (tgt := 73) C.1 C.2.1 dX3_noteClause_17 (by decide) (fun cn => ?_) (fun cn => ?_)
  · have hs := if_t cn hs
    obtain ⟨rfl, rfl⟩ := so2 hs
    exact C_vret C hI dX3_noteClause_73
  · have hs := if_f cn hs
    refine lv_aload_n C.1 C.2.1 dX3_noteClause_20 rfl (lv_at hl 1 rfl) ?_
    refine cg_X3_87 C hI dX3_noteClause_21 ?_
    refine lv_iload C.1 C.2.1 dX3_noteClause_24 (lv_at hl 0 rfl) ?_
    refine lv_iconst (v := 0) C.1 C.2.1 dX3_noteClause_26 (by decide) ?_
    refine lv_iadd C.1 C.2.1 dX3_noteClause_27 ?_
    refine lv_iload_n C.1 C.2.1 dX3_noteClause_28 rfl (lv_at hl 2 rfl) ?_
    obtain ⟨hk, hs⟩ := ck_e hs
    refine cs_87 C hI hk dX3_noteClause_29 (fun H locs hI => ?_)
    have hs := gv_be hs
    refine lv_aload_n C.1 C.2.1 dX3_noteClause_30 rfl (lv_at hl 1 rfl) ?_
    refine cg_X3_87 C hI dX3_noteClause_31 ?_
    refine lv_iload C.1 C.2.1 dX3_noteClause_34 (lv_at hl 0 rfl) ?_
    refine lv_iconst (v := 1) C.1 C.2.1 dX3_noteClause_36 (by decide) ?_
    refine lv_iadd C.1 C.2.1 dX3_noteClause_37 ?_
    refine lv_iload_n C.1 C.2.1 dX3_noteClause_38 rfl (lv_at hl 3 rfl) ?_
    obtain ⟨hk, hs⟩ := ck_e hs
    refine cs_87 C hI hk dX3_noteClause_39 (fun H locs hI => ?_)
    have hs := gv_be hs
    refine lv_aload_n C.1 C.2.1 dX3_noteClause_40 rfl (lv_at hl 1 rfl) ?_
    refine cg_X3_87 C hI dX3_noteClause_41 ?_
    refine lv_iload C.1 C.2.1 dX3_noteClause_44 (lv_at hl 0 rfl) ?_
    refine lv_iconst (v := 2) C.1 C.2.1 dX3_noteClause_46 (by decide) ?_
    refine lv_iadd C.1 C.2.1 dX3_noteClause_47 ?_
    refine lv_iload_n C.1 C.2.1 dX3_noteClause_48 rfl (lv_at hl 4 rfl) ?_
    obtain ⟨hk, hs⟩ := ck_e hs
    refine cs_87 C hI hk dX3_noteClause_49 (fun H locs hI => ?_)
    have hs := gv_be hs
    refine lv_aload_n C.1 C.2.1 dX3_noteClause_50 rfl (lv_at hl 1 rfl) ?_
    refine cg_X3_87 C hI dX3_noteClause_51 ?_
    refine lv_iload C.1 C.2.1 dX3_noteClause_54 (lv_at hl 0 rfl) ?_
    refine lv_iconst (v := 3) C.1 C.2.1 dX3_noteClause_56 (by decide) ?_
    refine lv_iadd C.1 C.2.1 dX3_noteClause_57 ?_
    refine lv_aload_n C.1 C.2.1 dX3_noteClause_58 rfl (lv_at hl 1 rfl) ?_
    refine cg_X3_90 C hI dX3_noteClause_59 ?_
    obtain ⟨hk, hs⟩ := ck_e hs
    refine cs_87 C hI hk dX3_noteClause_62 (fun H locs hI => ?_)
    have hs := gv_be hs
    refine lv_aload_n C.1 C.2.1 dX3_noteClause_63 rfl (lv_at hl 1 rfl) ?_
    refine lv_dup C.1 C.2.1 dX3_noteClause_64 rfl ?_
    refine cg_X3_88 C hI dX3_noteClause_65 ?_
    refine lv_iconst (v := 1) C.1 C.2.1 dX3_noteClause_68 (by decide) ?_
    refine lv_iadd C.1 C.2.1 dX3_noteClause_69 ?_
    refine cp_X3_88 C hI dX3_noteClause_70 (fun H locs hI => ?_)
    have hs := gv_be hs
    obtain ⟨rfl, rfl⟩ := so2 hs
    exact C_vret C hI dX3_noteClause_73

def sX3_land (x1 : Int32) (I : Nat → Int32) (J : Nat → Int64) (A : Nat → Nat → Int32) (B : Nat → Nat → Int64) : Option ((Nat → Nat → Int32)) :=
if (400 : Int32) ≤ (x1 + (1 : Int32)) then
(some A)
else
ck (inB (x1 + (1 : Int32)) 400) <|
gv (va_up A 89 (upd (A 89) (ix (x1 + (1 : Int32))) (I 90))) fun A =>
some A
set_option maxRecDepth 100000 in
set_option maxHeartbeats 8000000 in
theorem kX3_land (l : Launch) (D : va_G) (cy : Nat → ClassId) (P0 : Nat → Prop) (q z : Nat → Nat) (tl : va_W) (xx : (Nat → Option Nat) × (Nat → Option Nat) × Nat) (x1 : Int32) (I : Nat → Int32) (J : Nat → Int64) (A : Nat → Nat → Int32) (B : Nat → Nat → Int64) (A2 : Nat → Nat → Int32) (hs : sX3_land x1 I J A B = some A2) : McC l yX3_land cX3_land 2 none 0 [.ref (q 4), .int x1] D cy P0 q z tl (xx.1, xx.2.1, q 6) I J A B none (xx.1, xx.2.1, q 6) I J A2 B := by
  refine C_start rfl (Nat.le_of_ble_eq_true rfl) ?_
  intro p e s m args below meth c H locs C hI ls hl
  have hl : lv_has ls 2 [(0, .ref (q 4)), (1, .int x1)] := hl
  rw [sX3_land] at hs
  refine lv_iload_n C.1 C.2.1 dX3_land_0 rfl (lv_at hl 1 rfl) ?_
  refine lv_iconst (v := 1) C.1 C.2.1 dX3_land_1 (by decide) ?_
  refine lv_iadd C.1 C.2.1 dX3_land_2 ?_
  refine lv_sipush (v := 400) C.1 C.2.1 dX3_land_3 (by decide) ?_
  refine lv_icmp_ge (tgt := 21) C.1 C.2.1 dX3_land_6 (by decide) (fun cn => ?_) (fun cn => ?_)
  · have hs := if_t cn hs
    obtain rfl := Option.some.inj hs
    exact C_vret C hI dX3_land_21
  · have hs := if_f cn hs
    refine lv_aload_n C.1 C.2.1 dX3_land_9 rfl (lv_at hl 0 rfl) ?_
    refine cg_X3_89 C hI dX3_land_10 ?_
    refine lv_iload_n C.1 C.2.1 dX3_land_13 rfl (lv_at hl 1 rfl) ?_
    refine lv_iconst (v := 1) C.1 C.2.1 dX3_land_14 (by decide) ?_
    refine lv_iadd C.1 C.2.1 dX3_land_15 ?_
    refine lv_aload_n C.1 C.2.1 dX3_land_16 rfl (lv_at hl 0 rfl) ?_
    refine cg_X3_90 C hI dX3_land_17 ?_
    obtain ⟨hk, hs⟩ := ck_e hs
    refine cs_89 C hI hk dX3_land_20 (fun H locs hI => ?_)
    have hs := gv_be hs
    obtain rfl := Option.some.inj hs
    exact C_vret C hI dX3_land_21

def sX4_holdOf (x1 : Int32) (I : Nat → Int32) (J : Nat → Int64) (A : Nat → Nat → Int32) (B : Nat → Nat → Int64) : Option ((Int32)) :=
gv (A 15 (ix (0 : Int32))) fun x2_6 =>
gv (A 15 (ix (1 : Int32))) fun x3_13 =>
ck (inB x1 48) <|
if (A 11 (ix x1)) = 0 then
(some x2_6)
else
ck (inB x1 48) <|
some (x3_13 + (((x2_6 - x3_13) * (A 12 (ix x1))) / (4 : Int32)))
set_option maxRecDepth 100000 in
set_option maxHeartbeats 8000000 in
theorem kX4_holdOf (l : Launch) (D : va_G) (cy : Nat → ClassId) (P0 : Nat → Prop) (q z : Nat → Nat) (tl : va_W) (xx : (Nat → Option Nat) × (Nat → Option Nat) × Nat) (x1 : Int32) (I : Nat → Int32) (J : Nat → Int64) (A : Nat → Nat → Int32) (B : Nat → Nat → Int64) (r : Int32) (hs : sX4_holdOf x1 I J A B = some r) : McC l yX4_holdOf cX4_holdOf 4 (some .int) 0 [.ref (q 0), .int x1] D cy P0 q z tl xx I J A B (some (.int r)) xx I J A B := by
  refine C_start rfl (Nat.le_of_ble_eq_true rfl) ?_
  intro p e s m args below meth c H locs C hI ls hl
  have hl : lv_has ls 4 [(0, .ref (q 0)), (1, .int x1)] := hl
  rw [sX4_holdOf] at hs
  refine lv_aload_n C.1 C.2.1 dX4_holdOf_0 rfl (lv_at hl 0 rfl) ?_
  refine cg_X4_15 C hI dX4_holdOf_1 ?_
  refine lv_iconst (v := 0) C.1 C.2.1 dX4_holdOf_4 (by decide) ?_
  refine ca_15 C hI (by decide) dX4_holdOf_5 ?_
  refine lv_topi (fun x2_6 ex2_6 => ?_)
  have hs := gv_at ex2_6 hs
  refine lv_istore_n (lv' := [(2, .int x2_6), (0, .ref (q 0)), (1, .int x1)]) C.1 C.2.1 dX4_holdOf_6 rfl hl (by decide) rfl (fun ls hl => ?_)
  refine lv_aload_n C.1 C.2.1 dX4_holdOf_7 rfl (lv_at hl 1 rfl) ?_
  refine cg_X4_15 C hI dX4_holdOf_8 ?_
  refine lv_iconst (v := 1) C.1 C.2.1 dX4_holdOf_11 (by decide) ?_
  refine ca_15 C hI (by decide) dX4_holdOf_12 ?_
  refine lv_topi (fun x3_13 ex3_13 => ?_)
  have hs := gv_at ex3_13 hs
  refine lv_istore_n (lv' := [(3, .int x3_13), (2, .int x2_6), (0, .ref (q 0)), (1, .int x1)]) C.1 C.2.1 dX4_holdOf_13 rfl hl (by decide) rfl (fun ls hl => ?_)
  refine lv_aload_n C.1 C.2.1 dX4_holdOf_14 rfl (lv_at hl 2 rfl) ?_
  refine cg_X4_11 C hI dX4_holdOf_15 ?_
  refine lv_iload_n C.1 C.2.1 dX4_holdOf_18 rfl (lv_at hl 3 rfl) ?_
  obtain ⟨hk, hs⟩ := ck_e hs
  refine ca_11 C hI hk dX4_holdOf_19 ?_
  refine lv_if_ne (tgt := 27) C.1 C.2.1 dX4_holdOf_20 (by decide) (fun cn => ?_) (fun cn => ?_)
  · have hs := if_f cn hs
    refine lv_iload_n C.1 C.2.1 dX4_holdOf_27 rfl (lv_at hl 0 rfl) ?_
    refine lv_iload_n C.1 C.2.1 dX4_holdOf_28 rfl (lv_at hl 1 rfl) ?_
    refine lv_iload_n C.1 C.2.1 dX4_holdOf_29 rfl (lv_at hl 0 rfl) ?_
    refine lv_isub C.1 C.2.1 dX4_holdOf_30 ?_
    refine lv_aload_n C.1 C.2.1 dX4_holdOf_31 rfl (lv_at hl 2 rfl) ?_
    refine cg_X4_12 C hI dX4_holdOf_32 ?_
    refine lv_iload_n C.1 C.2.1 dX4_holdOf_35 rfl (lv_at hl 3 rfl) ?_
    obtain ⟨hk, hs⟩ := ck_e hs
    refine ca_12 C hI hk dX4_holdOf_36 ?_
    refine lv_imul C.1 C.2.1 dX4_holdOf_37 ?_
    refine lv_iconst (v := 4) C.1 C.2.1 dX4_holdOf_38 (by decide) ?_
    refine lv_idiv C.1 C.2.1 dX4_holdOf_39 (by decide) ?_
    refine lv_iadd C.1 C.2.1 dX4_holdOf_40 ?_
    obtain rfl := Option.some.inj hs
    exact C_iret C hI dX4_holdOf_41
  · have hs := if_t cn hs
    refine lv_iload_n C.1 C.2.1 dX4_holdOf_23 rfl (lv_at hl 1 rfl) ?_
    refine lv_goto (tgt := 41) C.1 C.2.1 dX4_holdOf_24 (by decide) ?_
    obtain rfl := Option.some.inj hs
    exact C_iret C hI dX4_holdOf_41

def sX4_currents (I : Nat → Int32) (J : Nat → Int64) (A : Nat → Nat → Int32) (B : Nat → Nat → Int64) : Option ((Int32)) :=
gv (if (A 15 (ix (4 : Int32))) = 0 then (-1431655766 : Int32) else (-1 : Int32)) fun v_15 =>
some v_15
set_option maxRecDepth 100000 in
set_option maxHeartbeats 8000000 in
theorem kX4_currents (l : Launch) (D : va_G) (cy : Nat → ClassId) (P0 : Nat → Prop) (q z : Nat → Nat) (tl : va_W) (xx : (Nat → Option Nat) × (Nat → Option Nat) × Nat) (I : Nat → Int32) (J : Nat → Int64) (A : Nat → Nat → Int32) (B : Nat → Nat → Int64) (r : Int32) (hs : sX4_currents I J A B = some r) : McC l yX4_currents cX4_currents 1 (some .int) 0 [.ref (q 0)] D cy P0 q z tl xx I J A B (some (.int r)) xx I J A B := by
  refine C_start rfl (Nat.le_of_ble_eq_true rfl) ?_
  intro p e s m args below meth c H locs C hI ls hl
  have hl : lv_has ls 1 [(0, .ref (q 0))] := hl
  rw [sX4_currents] at hs
  refine lv_aload_n C.1 C.2.1 dX4_currents_0 rfl (lv_at hl 0 rfl) ?_
  refine cg_X4_15 C hI dX4_currents_1 ?_
  refine lv_iconst (v := 4) C.1 C.2.1 dX4_currents_4 (by decide) ?_
  refine ca_15 C hI (by decide) dX4_currents_5 ?_
  obtain ⟨v_15, ev_15, hs⟩ := gv_ex hs
  have KP_15 : W p l e (rmL 0) s m args below meth c H locs 0 0 (MQ below (cQ D cy P0 q tl (some (.int r)) xx I J A B) args s 0 0 P0) (F0 m 15 ls [.int v_15]) := by
    obtain rfl := Option.some.inj hs
    exact C_iret C hI dX4_currents_15
  refine lv_if_ne (tgt := 14) C.1 C.2.1 dX4_currents_6 (by decide) (fun cn => ?_) (fun cn => ?_)
  · have ev_15 := if_f' cn ev_15
    refine lv_iconst (v := -1) C.1 C.2.1 dX4_currents_14 (by decide) ?_
    subst ev_15
    exact KP_15
  · have ev_15 := if_t' cn ev_15
    refine lv_ldc C.1 C.2.1 C.2.2.2.1 (C.2.2.2.2.1 _ kc_X4_87) dX4_currents_9 ?_
    refine lv_goto (tgt := 15) C.1 C.2.1 dX4_currents_11 (by decide) ?_
    subst ev_15
    exact KP_15

def sX5_isFull (nt : Nat) (I : Nat → Int32) (J : Nat → Int64) (A : Nat → Nat → Int32) (B : Nat → Nat → Int64) : Option ((Int32)) :=
gv (if (((I (32 + 3 * nt)) + (1 : Int32)) * (I (30 + 3 * nt))) ≤ (Int32.ofNat (tlen nt)) then (0 : Int32) else (1 : Int32)) fun v_24 =>
some v_24
set_option maxRecDepth 100000 in
set_option maxHeartbeats 8000000 in
theorem kX5_isFull (l : Launch) (D : va_G) (cy : Nat → ClassId) (P0 : Nat → Prop) (q z : Nat → Nat) (tl : va_W) (xx : (Nat → Option Nat) × (Nat → Option Nat) × Nat) (nt : Nat) (hn : nt < 5) (I : Nat → Int32) (J : Nat → Int64) (A : Nat → Nat → Int32) (B : Nat → Nat → Int64) (r : Int32) (hs : sX5_isFull nt I J A B = some r) : McC l yX5_isFull cX5_isFull 1 (some .boolean) 0 [.ref (q (17 + nt))] D cy P0 q z tl xx I J A B (some (.int r)) xx I J A B := by
  refine C_start rfl (Nat.le_of_ble_eq_true rfl) ?_
  intro p e s m args below meth c H locs C hI ls hl
  have hl : lv_has ls 1 [(0, .ref (q (17 + nt)))] := hl
  rw [sX5_isFull] at hs
  refine lv_aload_n C.1 C.2.1 dX5_isFull_0 rfl (lv_at hl 0 rfl) ?_
  refine cg_X5_size nt hn C hI dX5_isFull_1 ?_
  refine lv_iconst (v := 1) C.1 C.2.1 dX5_isFull_4 (by decide) ?_
  refine lv_iadd C.1 C.2.1 dX5_isFull_5 ?_
  refine lv_aload_n C.1 C.2.1 dX5_isFull_6 rfl (lv_at hl 0 rfl) ?_
  refine cg_X5_width nt hn C hI dX5_isFull_7 ?_
  refine lv_imul C.1 C.2.1 dX5_isFull_10 ?_
  refine lv_aload_n C.1 C.2.1 dX5_isFull_11 rfl (lv_at hl 0 rfl) ?_
  refine cg_X5_cells nt hn C hI dX5_isFull_12 ?_
  refine cl_tab nt hn C hI dX5_isFull_15 ?_
  obtain ⟨v_24, ev_24, hs⟩ := gv_ex hs
  have KP_24 : W p l e (rmL 0) s m args below meth c H locs 0 0 (MQ below (cQ D cy P0 q tl (some (.int r)) xx I J A B) args s 0 0 P0) (F0 m 24 ls [.int v_24]) := by
    obtain rfl := Option.some.inj hs
    exact C_zret C hI (isB_ev ev_24 (by (repeat' split) <;> decide)) dX5_isFull_24
  refine lv_icmp_le (tgt := 23) C.1 C.2.1 dX5_isFull_16 (by decide) (fun cn => ?_) (fun cn => ?_)
  · have ev_24 := if_t' cn ev_24
    refine lv_iconst (v := 0) C.1 C.2.1 dX5_isFull_23 (by decide) ?_
    subst ev_24
    exact KP_24
  · have ev_24 := if_f' cn ev_24
    refine lv_iconst (v := 1) C.1 C.2.1 dX5_isFull_19 (by decide) ?_
    refine lv_goto (tgt := 24) C.1 C.2.1 dX5_isFull_20 (by decide) ?_
    subst ev_24
    exact KP_24

def sX5_put (nt : Nat) (x1 : Int32) (x2 : Int32) (I : Nat → Int32) (J : Nat → Int64) (A : Nat → Nat → Int32) (B : Nat → Nat → Int64) : Option ((Nat → Nat → Int32)) :=
if (I (32 + 3 * nt)) ≤ 0 then
(some A)
else
if x1 < 0 then
(some A)
else
if (I (30 + 3 * nt)) ≤ x1 then
(some A)
else
ck (inB ((((I (32 + 3 * nt)) - (1 : Int32)) * (I (30 + 3 * nt))) + x1) (tlen nt)) <|
gv (va_up A (31 + 3 * nt) (upd (A (31 + 3 * nt)) (ix ((((I (32 + 3 * nt)) - (1 : Int32)) * (I (30 + 3 * nt))) + x1)) x2)) fun A =>
some A
set_option maxRecDepth 100000 in
set_option maxHeartbeats 8000000 in
theorem kX5_put (l : Launch) (D : va_G) (cy : Nat → ClassId) (P0 : Nat → Prop) (q z : Nat → Nat) (tl : va_W) (xx : (Nat → Option Nat) × (Nat → Option Nat) × Nat) (nt : Nat) (hn : nt < 5) (x1 : Int32) (x2 : Int32) (I : Nat → Int32) (J : Nat → Int64) (A : Nat → Nat → Int32) (B : Nat → Nat → Int64) (A2 : Nat → Nat → Int32) (hs : sX5_put nt x1 x2 I J A B = some A2) : McC l yX5_put cX5_put 3 none 0 [.ref (q (17 + nt)), .int x1, .int x2] D cy P0 q z tl xx I J A B none xx I J A2 B := by
  refine C_start rfl (Nat.le_of_ble_eq_true rfl) ?_
  intro p e s m args below meth c H locs C hI ls hl
  have hl : lv_has ls 3 [(0, .ref (q (17 + nt))), (1, .int x1), (2, .int x2)] := hl
  rw [sX5_put] at hs
  refine lv_aload_n C.1 C.2.1 dX5_put_0 rfl (lv_at hl 0 rfl) ?_
  refine cg_X5_size nt hn C hI dX5_put_1 ?_
  refine lv_if_le (tgt := 38) C.1 C.2.1 dX5_put_4 (by decide) (fun cn => ?_) (fun cn => ?_)
  · have hs := if_t cn hs
    obtain rfl := Option.some.inj hs
    exact C_vret C hI dX5_put_38
  · have hs := if_f cn hs
    refine lv_iload_n C.1 C.2.1 dX5_put_7 rfl (lv_at hl 1 rfl) ?_
    refine lv_if_lt (tgt := 38) C.1 C.2.1 dX5_put_8 (by decide) (fun cn => ?_) (fun cn => ?_)
    · have hs := if_t cn hs
      obtain rfl := Option.some.inj hs
      exact C_vret C hI dX5_put_38
    · have hs := if_f cn hs
      refine lv_iload_n C.1 C.2.1 dX5_put_11 rfl (lv_at hl 1 rfl) ?_
      refine lv_aload_n C.1 C.2.1 dX5_put_12 rfl (lv_at hl 0 rfl) ?_
      refine cg_X5_width nt hn C hI dX5_put_13 ?_
      refine lv_icmp_ge (tgt := 38) C.1 C.2.1 dX5_put_16 (by decide) (fun cn => ?_) (fun cn => ?_)
      · have hs := if_t cn hs
        obtain rfl := Option.some.inj hs
        exact C_vret C hI dX5_put_38
      · have hs := if_f cn hs
        refine lv_aload_n C.1 C.2.1 dX5_put_19 rfl (lv_at hl 0 rfl) ?_
        refine cg_X5_cells nt hn C hI dX5_put_20 ?_
        refine lv_aload_n C.1 C.2.1 dX5_put_23 rfl (lv_at hl 0 rfl) ?_
        refine cg_X5_size nt hn C hI dX5_put_24 ?_
        refine lv_iconst (v := 1) C.1 C.2.1 dX5_put_27 (by decide) ?_
        refine lv_isub C.1 C.2.1 dX5_put_28 ?_
        refine lv_aload_n C.1 C.2.1 dX5_put_29 rfl (lv_at hl 0 rfl) ?_
        refine cg_X5_width nt hn C hI dX5_put_30 ?_
        refine lv_imul C.1 C.2.1 dX5_put_33 ?_
        refine lv_iload_n C.1 C.2.1 dX5_put_34 rfl (lv_at hl 1 rfl) ?_
        refine lv_iadd C.1 C.2.1 dX5_put_35 ?_
        refine lv_iload_n C.1 C.2.1 dX5_put_36 rfl (lv_at hl 2 rfl) ?_
        obtain ⟨hk, hs⟩ := ck_e hs
        refine cs_tab nt hn C hI hk dX5_put_37 (fun H locs hI => ?_)
        have hs := gv_be hs
        obtain rfl := Option.some.inj hs
        exact C_vret C hI dX5_put_38

def sX5_cell (nt : Nat) (x1 : Int32) (x2 : Int32) (I : Nat → Int32) (J : Nat → Int64) (A : Nat → Nat → Int32) (B : Nat → Nat → Int64) : Option ((Int32)) :=
if x1 < 0 then
(some (0 : Int32))
else
if (I (32 + 3 * nt)) ≤ x1 then
(some (0 : Int32))
else
if x2 < 0 then
(some (0 : Int32))
else
if x2 < (I (30 + 3 * nt)) then
(ck (inB ((x1 * (I (30 + 3 * nt))) + x2) (tlen nt)) <|
some (A (31 + 3 * nt) (ix ((x1 * (I (30 + 3 * nt))) + x2))))
else
some (0 : Int32)
set_option maxRecDepth 100000 in
set_option maxHeartbeats 8000000 in
theorem kX5_cell (l : Launch) (D : va_G) (cy : Nat → ClassId) (P0 : Nat → Prop) (q z : Nat → Nat) (tl : va_W) (xx : (Nat → Option Nat) × (Nat → Option Nat) × Nat) (nt : Nat) (hn : nt < 5) (x1 : Int32) (x2 : Int32) (I : Nat → Int32) (J : Nat → Int64) (A : Nat → Nat → Int32) (B : Nat → Nat → Int64) (r : Int32) (hs : sX5_cell nt x1 x2 I J A B = some r) : McC l yX5_cell cX5_cell 3 (some .int) 0 [.ref (q (17 + nt)), .int x1, .int x2] D cy P0 q z tl xx I J A B (some (.int r)) xx I J A B := by
  refine C_start rfl (Nat.le_of_ble_eq_true rfl) ?_
  intro p e s m args below meth c H locs C hI ls hl
  have hl : lv_has ls 3 [(0, .ref (q (17 + nt))), (1, .int x1), (2, .int x2)] := hl
  rw [sX5_cell] at hs
  refine lv_iload_n C.1 C.2.1 dX5_cell_0 rfl (lv_at hl 1 rfl) ?_
  refine lv_if_lt (tgt := 24) C.1 C.2.1 dX5_cell_1 (by decide) (fun cn => ?_) (fun cn => ?_)
  · have hs := if_t cn hs
    refine lv_iconst (v := 0) C.1 C.2.1 dX5_cell_24 (by decide) ?_
    obtain rfl := Option.some.inj hs
    exact C_iret C hI dX5_cell_25
  · have hs := if_f cn hs
    refine lv_iload_n C.1 C.2.1 dX5_cell_4 rfl (lv_at hl 1 rfl) ?_
    refine lv_aload_n C.1 C.2.1 dX5_cell_5 rfl (lv_at hl 0 rfl) ?_
    refine cg_X5_size nt hn C hI dX5_cell_6 ?_
    refine lv_icmp_ge (tgt := 24) C.1 C.2.1 dX5_cell_9 (by decide) (fun cn => ?_) (fun cn => ?_)
    · have hs := if_t cn hs
      refine lv_iconst (v := 0) C.1 C.2.1 dX5_cell_24 (by decide) ?_
      obtain rfl := Option.some.inj hs
      exact C_iret C hI dX5_cell_25
    · have hs := if_f cn hs
      refine lv_iload_n C.1 C.2.1 dX5_cell_12 rfl (lv_at hl 2 rfl) ?_
      refine lv_if_lt (tgt := 24) C.1 C.2.1 dX5_cell_13 (by decide) (fun cn => ?_) (fun cn => ?_)
      · have hs := if_t cn hs
        refine lv_iconst (v := 0) C.1 C.2.1 dX5_cell_24 (by decide) ?_
        obtain rfl := Option.some.inj hs
        exact C_iret C hI dX5_cell_25
      · have hs := if_f cn hs
        refine lv_iload_n C.1 C.2.1 dX5_cell_16 rfl (lv_at hl 2 rfl) ?_
        refine lv_aload_n C.1 C.2.1 dX5_cell_17 rfl (lv_at hl 0 rfl) ?_
        refine cg_X5_width nt hn C hI dX5_cell_18 ?_
        refine lv_icmp_lt (tgt := 26) C.1 C.2.1 dX5_cell_21 (by decide) (fun cn => ?_) (fun cn => ?_)
        · have hs := if_t cn hs
          refine lv_aload_n C.1 C.2.1 dX5_cell_26 rfl (lv_at hl 0 rfl) ?_
          refine cg_X5_cells nt hn C hI dX5_cell_27 ?_
          refine lv_iload_n C.1 C.2.1 dX5_cell_30 rfl (lv_at hl 1 rfl) ?_
          refine lv_aload_n C.1 C.2.1 dX5_cell_31 rfl (lv_at hl 0 rfl) ?_
          refine cg_X5_width nt hn C hI dX5_cell_32 ?_
          refine lv_imul C.1 C.2.1 dX5_cell_35 ?_
          refine lv_iload_n C.1 C.2.1 dX5_cell_36 rfl (lv_at hl 2 rfl) ?_
          refine lv_iadd C.1 C.2.1 dX5_cell_37 ?_
          obtain ⟨hk, hs⟩ := ck_e hs
          refine ca_tab nt hn C hI hk dX5_cell_38 ?_
          obtain rfl := Option.some.inj hs
          exact C_iret C hI dX5_cell_39
        · have hs := if_f cn hs
          refine lv_iconst (v := 0) C.1 C.2.1 dX5_cell_24 (by decide) ?_
          obtain rfl := Option.some.inj hs
          exact C_iret C hI dX5_cell_25

def sX7_fault (I : Nat → Int32) (J : Nat → Int64) (A : Nat → Nat → Int32) (B : Nat → Nat → Int64) : Option ((Int32)) :=
some (I 8)
set_option maxRecDepth 100000 in
set_option maxHeartbeats 8000000 in
theorem kX7_fault (l : Launch) (D : va_G) (cy : Nat → ClassId) (P0 : Nat → Prop) (q z : Nat → Nat) (tl : va_W) (xx : (Nat → Option Nat) × (Nat → Option Nat) × Nat) (I : Nat → Int32) (J : Nat → Int64) (A : Nat → Nat → Int32) (B : Nat → Nat → Int64) (r : Int32) (hs : sX7_fault I J A B = some r) : McC l yX7_fault cX7_fault 1 (some .int) 0 [.ref (q 99)] D cy P0 q z tl xx I J A B (some (.int r)) xx I J A B := by
  refine C_start rfl (Nat.le_of_ble_eq_true rfl) ?_
  intro p e s m args below meth c H locs C hI ls hl
  have hl : lv_has ls 1 [(0, .ref (q 99))] := hl
  rw [sX7_fault] at hs
  refine lv_aload_n C.1 C.2.1 dX7_fault_0 rfl (lv_at hl 0 rfl) ?_
  refine cg_X7_8 C hI dX7_fault_1 ?_
  obtain rfl := Option.some.inj hs
  exact C_iret C hI dX7_fault_4

def sX7_clear (I : Nat → Int32) (J : Nat → Int64) (A : Nat → Nat → Int32) (B : Nat → Nat → Int64) : Option ((Int32) × (Nat → Int32)) :=
gv (I 73) fun x1_7 =>
gv (upd I 73 (0 : Int32)) fun I =>
some (x1_7, I)
set_option maxRecDepth 100000 in
set_option maxHeartbeats 8000000 in
theorem kX7_clear (l : Launch) (D : va_G) (cy : Nat → ClassId) (P0 : Nat → Prop) (q z : Nat → Nat) (tl : va_W) (xx : (Nat → Option Nat) × (Nat → Option Nat) × Nat) (I : Nat → Int32) (J : Nat → Int64) (A : Nat → Nat → Int32) (B : Nat → Nat → Int64) (r : Int32) (I2 : Nat → Int32) (hs : sX7_clear I J A B = some (r, I2)) : McC l yX7_clear cX7_clear 2 (some .int) 0 [.ref (q 99)] D cy P0 q z tl xx I J A B (some (.int r)) xx I2 J A B := by
  refine C_start rfl (Nat.le_of_ble_eq_true rfl) ?_
  intro p e s m args below meth c H locs C hI ls hl
  have hl : lv_has ls 2 [(0, .ref (q 99))] := hl
  rw [sX7_clear] at hs
  refine lv_aload_n C.1 C.2.1 dX7_clear_0 rfl (lv_at hl 0 rfl) ?_
  refine cg_X7_3 C hI dX7_clear_1 ?_
  refine cg_X7_73 C hI dX7_clear_4 ?_
  refine lv_topi (fun x1_7 ex1_7 => ?_)
  have hs := gv_at ex1_7 hs
  refine lv_istore_n (lv' := [(1, .int x1_7), (0, .ref (q 99))]) C.1 C.2.1 dX7_clear_7 rfl hl (by decide) rfl (fun ls hl => ?_)
  refine lv_aload_n C.1 C.2.1 dX7_clear_8 rfl (lv_at hl 1 rfl) ?_
  refine cg_X7_3 C hI dX7_clear_9 ?_
  refine lv_iconst (v := 0) C.1 C.2.1 dX7_clear_12 (by decide) ?_
  refine cp_X7_73 C hI dX7_clear_13 (fun H locs hI => ?_)
  have hs := gv_be hs
  refine lv_iload_n C.1 C.2.1 dX7_clear_16 rfl (lv_at hl 0 rfl) ?_
  obtain ⟨rfl, rfl⟩ := so2 hs
  exact C_iret C hI dX7_clear_17

def sX7_count (x1 : Int32) (I : Nat → Int32) (J : Nat → Int64) (A : Nat → Nat → Int32) (B : Nat → Nat → Int64) : Option ((Int32)) :=
if x1 = 0 then
(some (I 32))
else
if x1 = 1 then
(some (I 23))
else
if x1 = 2 then
(some (I 35))
else
if x1 = 3 then
(some (I 73))
else
if x1 = 4 then
(some (I 38))
else
if x1 = 5 then
(some (I 41))
else
if x1 = 6 then
(some (I 44))
else
if x1 = 7 then
(some (I 7))
else
some (-1 : Int32)
set_option maxRecDepth 100000 in
set_option maxHeartbeats 8000000 in
theorem kX7_count (l : Launch) (D : va_G) (cy : Nat → ClassId) (P0 : Nat → Prop) (q z : Nat → Nat) (tl : va_W) (xx : (Nat → Option Nat) × (Nat → Option Nat) × Nat) (x1 : Int32) (I : Nat → Int32) (J : Nat → Int64) (A : Nat → Nat → Int32) (B : Nat → Nat → Int64) (r : Int32) (hs : sX7_count x1 I J A B = some r) : McC l yX7_count cX7_count 2 (some .int) 0 [.ref (q 99), .int x1] D cy P0 q z tl xx I J A B (some (.int r)) xx I J A B := by
  refine C_start rfl (Nat.le_of_ble_eq_true rfl) ?_
  intro p e s m args below meth c H locs C hI ls hl
  have hl : lv_has ls 2 [(0, .ref (q 99)), (1, .int x1)] := hl
  rw [sX7_count] at hs
  refine lv_iload_n C.1 C.2.1 dX7_count_0 rfl (lv_at hl 1 rfl) ?_
  by_cases c0 : x1 = 0
  · have hs := if_t c0 hs
    refine lv_tableIn (off := 47) (tgt := 48) C.1 C.2.1 dX7_count_1 (by rw [c0]; decide) (by rw [c0]; decide) (by rw [c0]; rfl) (by decide) ?_
    refine lv_aload_n C.1 C.2.1 dX7_count_48 rfl (lv_at hl 0 rfl) ?_
    refine cg_X7_0 C hI dX7_count_49 ?_
    refine cg_X7_17 C hI dX7_count_52 ?_
    refine cg_X7_32 C hI dX7_count_55 ?_
    obtain rfl := Option.some.inj hs
    exact C_iret C hI dX7_count_58
  have hs := if_f c0 hs
  by_cases c1 : x1 = 1
  · have hs := if_t c1 hs
    refine lv_tableIn (off := 58) (tgt := 59) C.1 C.2.1 dX7_count_1 (by rw [c1]; decide) (by rw [c1]; decide) (by rw [c1]; rfl) (by decide) ?_
    refine lv_aload_n C.1 C.2.1 dX7_count_59 rfl (lv_at hl 0 rfl) ?_
    refine cg_X7_0 C hI dX7_count_60 ?_
    refine cg_X7_23 C hI dX7_count_63 ?_
    obtain rfl := Option.some.inj hs
    exact C_iret C hI dX7_count_66
  have hs := if_f c1 hs
  by_cases c2 : x1 = 2
  · have hs := if_t c2 hs
    refine lv_tableIn (off := 66) (tgt := 67) C.1 C.2.1 dX7_count_1 (by rw [c2]; decide) (by rw [c2]; decide) (by rw [c2]; rfl) (by decide) ?_
    refine lv_aload_n C.1 C.2.1 dX7_count_67 rfl (lv_at hl 0 rfl) ?_
    refine cg_X7_0 C hI dX7_count_68 ?_
    refine cg_X7_18 C hI dX7_count_71 ?_
    refine cg_X7_35 C hI dX7_count_74 ?_
    obtain rfl := Option.some.inj hs
    exact C_iret C hI dX7_count_77
  have hs := if_f c2 hs
  by_cases c3 : x1 = 3
  · have hs := if_t c3 hs
    refine lv_tableIn (off := 77) (tgt := 78) C.1 C.2.1 dX7_count_1 (by rw [c3]; decide) (by rw [c3]; decide) (by rw [c3]; rfl) (by decide) ?_
    refine lv_aload_n C.1 C.2.1 dX7_count_78 rfl (lv_at hl 0 rfl) ?_
    refine cg_X7_3 C hI dX7_count_79 ?_
    refine cg_X7_73 C hI dX7_count_82 ?_
    obtain rfl := Option.some.inj hs
    exact C_iret C hI dX7_count_85
  have hs := if_f c3 hs
  by_cases c4 : x1 = 4
  · have hs := if_t c4 hs
    refine lv_tableIn (off := 85) (tgt := 86) C.1 C.2.1 dX7_count_1 (by rw [c4]; decide) (by rw [c4]; decide) (by rw [c4]; rfl) (by decide) ?_
    refine lv_aload_n C.1 C.2.1 dX7_count_86 rfl (lv_at hl 0 rfl) ?_
    refine cg_X7_0 C hI dX7_count_87 ?_
    refine cg_X7_19 C hI dX7_count_90 ?_
    refine cg_X7_38 C hI dX7_count_93 ?_
    obtain rfl := Option.some.inj hs
    exact C_iret C hI dX7_count_96
  have hs := if_f c4 hs
  by_cases c5 : x1 = 5
  · have hs := if_t c5 hs
    refine lv_tableIn (off := 96) (tgt := 97) C.1 C.2.1 dX7_count_1 (by rw [c5]; decide) (by rw [c5]; decide) (by rw [c5]; rfl) (by decide) ?_
    refine lv_aload_n C.1 C.2.1 dX7_count_97 rfl (lv_at hl 0 rfl) ?_
    refine cg_X7_0 C hI dX7_count_98 ?_
    refine cg_X7_20 C hI dX7_count_101 ?_
    refine cg_X7_41 C hI dX7_count_104 ?_
    obtain rfl := Option.some.inj hs
    exact C_iret C hI dX7_count_107
  have hs := if_f c5 hs
  by_cases c6 : x1 = 6
  · have hs := if_t c6 hs
    refine lv_tableIn (off := 107) (tgt := 108) C.1 C.2.1 dX7_count_1 (by rw [c6]; decide) (by rw [c6]; decide) (by rw [c6]; rfl) (by decide) ?_
    refine lv_aload_n C.1 C.2.1 dX7_count_108 rfl (lv_at hl 0 rfl) ?_
    refine cg_X7_0 C hI dX7_count_109 ?_
    refine cg_X7_21 C hI dX7_count_112 ?_
    refine cg_X7_44 C hI dX7_count_115 ?_
    obtain rfl := Option.some.inj hs
    exact C_iret C hI dX7_count_118
  have hs := if_f c6 hs
  by_cases c7 : x1 = 7
  · have hs := if_t c7 hs
    refine lv_tableIn (off := 118) (tgt := 119) C.1 C.2.1 dX7_count_1 (by rw [c7]; decide) (by rw [c7]; decide) (by rw [c7]; rfl) (by decide) ?_
    refine lv_aload_n C.1 C.2.1 dX7_count_119 rfl (lv_at hl 0 rfl) ?_
    refine cg_X7_7 C hI dX7_count_120 ?_
    obtain rfl := Option.some.inj hs
    exact C_iret C hI dX7_count_123
  have hs := if_f c7 hs
  refine lv_tableOut (tgt := 124) C.1 C.2.1 dX7_count_1 (tab_out8 c0 c1 c2 c3 c4 c5 c6 c7) (by decide) ?_
  refine lv_iconst (v := -1) C.1 C.2.1 dX7_count_124 (by decide) ?_
  obtain rfl := Option.some.inj hs
  exact C_iret C hI dX7_count_125

def sX7_status (I : Nat → Int32) (J : Nat → Int64) (A : Nat → Nat → Int32) (B : Nat → Nat → Int64) : Option ((Int32)) :=
some (I 9)
set_option maxRecDepth 100000 in
set_option maxHeartbeats 8000000 in
theorem kX7_status (l : Launch) (D : va_G) (cy : Nat → ClassId) (P0 : Nat → Prop) (q z : Nat → Nat) (tl : va_W) (xx : (Nat → Option Nat) × (Nat → Option Nat) × Nat) (I : Nat → Int32) (J : Nat → Int64) (A : Nat → Nat → Int32) (B : Nat → Nat → Int64) (r : Int32) (hs : sX7_status I J A B = some r) : McC l yX7_status cX7_status 1 (some .int) 0 [.ref (q 99)] D cy P0 q z tl xx I J A B (some (.int r)) xx I J A B := by
  refine C_start rfl (Nat.le_of_ble_eq_true rfl) ?_
  intro p e s m args below meth c H locs C hI ls hl
  have hl : lv_has ls 1 [(0, .ref (q 99))] := hl
  rw [sX7_status] at hs
  refine lv_aload_n C.1 C.2.1 dX7_status_0 rfl (lv_at hl 0 rfl) ?_
  refine cg_X7_9 C hI dX7_status_1 ?_
  obtain rfl := Option.some.inj hs
  exact C_iret C hI dX7_status_4

def sX7_refuse (x1 : Int32) (I : Nat → Int32) (J : Nat → Int64) (A : Nat → Nat → Int32) (B : Nat → Nat → Int64) : Option ((Int32) × (Nat → Int32)) :=
gv (upd I 9 x1) fun I =>
some (x1, I)
set_option maxRecDepth 100000 in
set_option maxHeartbeats 8000000 in
theorem kX7_refuse (l : Launch) (D : va_G) (cy : Nat → ClassId) (P0 : Nat → Prop) (q z : Nat → Nat) (tl : va_W) (xx : (Nat → Option Nat) × (Nat → Option Nat) × Nat) (x1 : Int32) (I : Nat → Int32) (J : Nat → Int64) (A : Nat → Nat → Int32) (B : Nat → Nat → Int64) (r : Int32) (I2 : Nat → Int32) (hs : sX7_refuse x1 I J A B = some (r, I2)) : McC l yX7_refuse cX7_refuse 2 (some .int) 0 [.ref (q 99), .int x1] D cy P0 q z tl xx I J A B (some (.int r)) xx I2 J A B := by
  refine C_start rfl (Nat.le_of_ble_eq_true rfl) ?_
  intro p e s m args below meth c H locs C hI ls hl
  have hl : lv_has ls 2 [(0, .ref (q 99)), (1, .int x1)] := hl
  rw [sX7_refuse] at hs
  refine lv_aload_n C.1 C.2.1 dX7_refuse_0 rfl (lv_at hl 0 rfl) ?_
  refine lv_iload_n C.1 C.2.1 dX7_refuse_1 rfl (lv_at hl 1 rfl) ?_
  refine cp_X7_9 C hI dX7_refuse_2 (fun H locs hI => ?_)
  have hs := gv_be hs
  refine lv_iload_n C.1 C.2.1 dX7_refuse_5 rfl (lv_at hl 1 rfl) ?_
  obtain ⟨rfl, rfl⟩ := so2 hs
  exact C_iret C hI dX7_refuse_6

def sX7_accept (x1 : Int32) (I : Nat → Int32) (J : Nat → Int64) (A : Nat → Nat → Int32) (B : Nat → Nat → Int64) : Option ((Int32) × (Nat → Int32)) :=
gv (upd I 9 (0 : Int32)) fun I =>
some (x1, I)
set_option maxRecDepth 100000 in
set_option maxHeartbeats 8000000 in
theorem kX7_accept (l : Launch) (D : va_G) (cy : Nat → ClassId) (P0 : Nat → Prop) (q z : Nat → Nat) (tl : va_W) (xx : (Nat → Option Nat) × (Nat → Option Nat) × Nat) (x1 : Int32) (I : Nat → Int32) (J : Nat → Int64) (A : Nat → Nat → Int32) (B : Nat → Nat → Int64) (r : Int32) (I2 : Nat → Int32) (hs : sX7_accept x1 I J A B = some (r, I2)) : McC l yX7_accept cX7_accept 2 (some .int) 0 [.ref (q 99), .int x1] D cy P0 q z tl xx I J A B (some (.int r)) xx I2 J A B := by
  refine C_start rfl (Nat.le_of_ble_eq_true rfl) ?_
  intro p e s m args below meth c H locs C hI ls hl
  have hl : lv_has ls 2 [(0, .ref (q 99)), (1, .int x1)] := hl
  rw [sX7_accept] at hs
  refine lv_aload_n C.1 C.2.1 dX7_accept_0 rfl (lv_at hl 0 rfl) ?_
  refine lv_iconst (v := 0) C.1 C.2.1 dX7_accept_1 (by decide) ?_
  refine cp_X7_9 C hI dX7_accept_2 (fun H locs hI => ?_)
  have hs := gv_be hs
  refine lv_iload_n C.1 C.2.1 dX7_accept_5 rfl (lv_at hl 1 rfl) ?_
  obtain ⟨rfl, rfl⟩ := so2 hs
  exact C_iret C hI dX7_accept_6

def sX7_isWithin (x0 : Int32) (x1 : Int32) (x2 : Int32) : Option ((Int32)) :=
gv (if x0 < x1 then (0 : Int32) else (if x2 < x0 then (0 : Int32) else (1 : Int32))) fun v_15 =>
some v_15
set_option maxRecDepth 100000 in
set_option maxHeartbeats 8000000 in
theorem kX7_isWithin (l : Launch) (x0 : Int32) (x1 : Int32) (x2 : Int32) (r : Int32) (hs : sX7_isWithin x0 x1 x2 = some r) : McS l yX7_isWithin cX7_isWithin 3 (some .boolean) 0 [.int x0, .int x1, .int x2] (some (.int r)) := by
  refine S_start rfl (Nat.le_of_ble_eq_true rfl) ?_
  intro p e s m args below meth c H locs C hI ls hl
  have hl : lv_has ls 3 [(0, .int x0), (1, .int x1), (2, .int x2)] := hl
  rw [sX7_isWithin] at hs
  refine lv_iload_n C.1 C.2.1 dX7_isWithin_0 rfl (lv_at hl 0 rfl) ?_
  refine lv_iload_n C.1 C.2.1 dX7_isWithin_1 rfl (lv_at hl 1 rfl) ?_
  obtain ⟨v_15, ev_15, hs⟩ := gv_ex hs
  have KP_15 : W p l e (rmL 0) s m args below meth c H locs 0 0 (MQ below (fun _ st oc t => oc = .returned (some (.int r)) ∧ t.heap = st.heap) args s 0 0 (fun _ => False)) (F0 m 15 ls [.int v_15]) := by
    obtain rfl := Option.some.inj hs
    exact S_zret C hI (isB_ev ev_15 (by (repeat' split) <;> decide)) dX7_isWithin_15
  refine lv_icmp_lt (tgt := 14) C.1 C.2.1 dX7_isWithin_2 (by decide) (fun cn => ?_) (fun cn => ?_)
  · have ev_15 := if_t' cn ev_15
    refine lv_iconst (v := 0) C.1 C.2.1 dX7_isWithin_14 (by decide) ?_
    subst ev_15
    exact KP_15
  · have ev_15 := if_f' cn ev_15
    refine lv_iload_n C.1 C.2.1 dX7_isWithin_5 rfl (lv_at hl 0 rfl) ?_
    refine lv_iload_n C.1 C.2.1 dX7_isWithin_6 rfl (lv_at hl 2 rfl) ?_
    refine lv_icmp_gt (tgt := 14) C.1 C.2.1 dX7_isWithin_7 (by decide) (fun cn => ?_) (fun cn => ?_)
    · have ev_15 := if_t' cn ev_15
      refine lv_iconst (v := 0) C.1 C.2.1 dX7_isWithin_14 (by decide) ?_
      subst ev_15
      exact KP_15
    · have ev_15 := if_f' cn ev_15
      refine lv_iconst (v := 1) C.1 C.2.1 dX7_isWithin_10 (by decide) ?_
      refine lv_goto (tgt := 15) C.1 C.2.1 dX7_isWithin_11 (by decide) ?_
      subst ev_15
      exact KP_15

def sX7_isJoint (x0 : Int32) : Option ((Int32)) :=
gv (if x0 < 0 then (0 : Int32) else (if (48 : Int32) ≤ x0 then (0 : Int32) else (1 : Int32))) fun v_15 =>
some v_15
set_option maxRecDepth 100000 in
set_option maxHeartbeats 8000000 in
theorem kX7_isJoint (l : Launch) (x0 : Int32) (r : Int32) (hs : sX7_isJoint x0 = some r) : McS l yX7_isJoint cX7_isJoint 1 (some .boolean) 0 [.int x0] (some (.int r)) := by
  refine S_start rfl (Nat.le_of_ble_eq_true rfl) ?_
  intro p e s m args below meth c H locs C hI ls hl
  have hl : lv_has ls 1 [(0, .int x0)] := hl
  rw [sX7_isJoint] at hs
  refine lv_iload_n C.1 C.2.1 dX7_isJoint_0 rfl (lv_at hl 0 rfl) ?_
  obtain ⟨v_15, ev_15, hs⟩ := gv_ex hs
  have KP_15 : W p l e (rmL 0) s m args below meth c H locs 0 0 (MQ below (fun _ st oc t => oc = .returned (some (.int r)) ∧ t.heap = st.heap) args s 0 0 (fun _ => False)) (F0 m 15 ls [.int v_15]) := by
    obtain rfl := Option.some.inj hs
    exact S_zret C hI (isB_ev ev_15 (by (repeat' split) <;> decide)) dX7_isJoint_15
  refine lv_if_lt (tgt := 14) C.1 C.2.1 dX7_isJoint_1 (by decide) (fun cn => ?_) (fun cn => ?_)
  · have ev_15 := if_t' cn ev_15
    refine lv_iconst (v := 0) C.1 C.2.1 dX7_isJoint_14 (by decide) ?_
    subst ev_15
    exact KP_15
  · have ev_15 := if_f' cn ev_15
    refine lv_iload_n C.1 C.2.1 dX7_isJoint_4 rfl (lv_at hl 0 rfl) ?_
    refine lv_bipush (v := 48) C.1 C.2.1 dX7_isJoint_5 (by decide) ?_
    refine lv_icmp_ge (tgt := 14) C.1 C.2.1 dX7_isJoint_7 (by decide) (fun cn => ?_) (fun cn => ?_)
    · have ev_15 := if_t' cn ev_15
      refine lv_iconst (v := 0) C.1 C.2.1 dX7_isJoint_14 (by decide) ?_
      subst ev_15
      exact KP_15
    · have ev_15 := if_f' cn ev_15
      refine lv_iconst (v := 1) C.1 C.2.1 dX7_isJoint_10 (by decide) ?_
      refine lv_goto (tgt := 15) C.1 C.2.1 dX7_isJoint_11 (by decide) ?_
      subst ev_15
      exact KP_15

def sX7_isWay (x0 : Int32) : Option ((Int32)) :=
gv (if x0 < 0 then (0 : Int32) else (if (8 : Int32) ≤ x0 then (0 : Int32) else (1 : Int32))) fun v_15 =>
some v_15
set_option maxRecDepth 100000 in
set_option maxHeartbeats 8000000 in
theorem kX7_isWay (l : Launch) (x0 : Int32) (r : Int32) (hs : sX7_isWay x0 = some r) : McS l yX7_isWay cX7_isWay 1 (some .boolean) 0 [.int x0] (some (.int r)) := by
  refine S_start rfl (Nat.le_of_ble_eq_true rfl) ?_
  intro p e s m args below meth c H locs C hI ls hl
  have hl : lv_has ls 1 [(0, .int x0)] := hl
  rw [sX7_isWay] at hs
  refine lv_iload_n C.1 C.2.1 dX7_isWay_0 rfl (lv_at hl 0 rfl) ?_
  obtain ⟨v_15, ev_15, hs⟩ := gv_ex hs
  have KP_15 : W p l e (rmL 0) s m args below meth c H locs 0 0 (MQ below (fun _ st oc t => oc = .returned (some (.int r)) ∧ t.heap = st.heap) args s 0 0 (fun _ => False)) (F0 m 15 ls [.int v_15]) := by
    obtain rfl := Option.some.inj hs
    exact S_zret C hI (isB_ev ev_15 (by (repeat' split) <;> decide)) dX7_isWay_15
  refine lv_if_lt (tgt := 14) C.1 C.2.1 dX7_isWay_1 (by decide) (fun cn => ?_) (fun cn => ?_)
  · have ev_15 := if_t' cn ev_15
    refine lv_iconst (v := 0) C.1 C.2.1 dX7_isWay_14 (by decide) ?_
    subst ev_15
    exact KP_15
  · have ev_15 := if_f' cn ev_15
    refine lv_iload_n C.1 C.2.1 dX7_isWay_4 rfl (lv_at hl 0 rfl) ?_
    refine lv_bipush (v := 8) C.1 C.2.1 dX7_isWay_5 (by decide) ?_
    refine lv_icmp_ge (tgt := 14) C.1 C.2.1 dX7_isWay_7 (by decide) (fun cn => ?_) (fun cn => ?_)
    · have ev_15 := if_t' cn ev_15
      refine lv_iconst (v := 0) C.1 C.2.1 dX7_isWay_14 (by decide) ?_
      subst ev_15
      exact KP_15
    · have ev_15 := if_f' cn ev_15
      refine lv_iconst (v := 1) C.1 C.2.1 dX7_isWay_10 (by decide) ?_
      refine lv_goto (tgt := 15) C.1 C.2.1 dX7_isWay_11 (by decide) ?_
      subst ev_15
      exact KP_15

def sX7_isDay (x0 : Int32) : Option ((Int32)) :=
gv (if x0 < 0 then (0 : Int32) else (if (9999 : Int32) < x0 then (0 : Int32) else (1 : Int32))) fun v_16 =>
some v_16
set_option maxRecDepth 100000 in
set_option maxHeartbeats 8000000 in
theorem kX7_isDay (l : Launch) (x0 : Int32) (r : Int32) (hs : sX7_isDay x0 = some r) : McS l yX7_isDay cX7_isDay 1 (some .boolean) 0 [.int x0] (some (.int r)) := by
  refine S_start rfl (Nat.le_of_ble_eq_true rfl) ?_
  intro p e s m args below meth c H locs C hI ls hl
  have hl : lv_has ls 1 [(0, .int x0)] := hl
  rw [sX7_isDay] at hs
  refine lv_iload_n C.1 C.2.1 dX7_isDay_0 rfl (lv_at hl 0 rfl) ?_
  obtain ⟨v_16, ev_16, hs⟩ := gv_ex hs
  have KP_16 : W p l e (rmL 0) s m args below meth c H locs 0 0 (MQ below (fun _ st oc t => oc = .returned (some (.int r)) ∧ t.heap = st.heap) args s 0 0 (fun _ => False)) (F0 m 16 ls [.int v_16]) := by
    obtain rfl := Option.some.inj hs
    exact S_zret C hI (isB_ev ev_16 (by (repeat' split) <;> decide)) dX7_isDay_16
  refine lv_if_lt (tgt := 15) C.1 C.2.1 dX7_isDay_1 (by decide) (fun cn => ?_) (fun cn => ?_)
  · have ev_16 := if_t' cn ev_16
    refine lv_iconst (v := 0) C.1 C.2.1 dX7_isDay_15 (by decide) ?_
    subst ev_16
    exact KP_16
  · have ev_16 := if_f' cn ev_16
    refine lv_iload_n C.1 C.2.1 dX7_isDay_4 rfl (lv_at hl 0 rfl) ?_
    refine lv_sipush (v := 9999) C.1 C.2.1 dX7_isDay_5 (by decide) ?_
    refine lv_icmp_gt (tgt := 15) C.1 C.2.1 dX7_isDay_8 (by decide) (fun cn => ?_) (fun cn => ?_)
    · have ev_16 := if_t' cn ev_16
      refine lv_iconst (v := 0) C.1 C.2.1 dX7_isDay_15 (by decide) ?_
      subst ev_16
      exact KP_16
    · have ev_16 := if_f' cn ev_16
      refine lv_iconst (v := 1) C.1 C.2.1 dX7_isDay_11 (by decide) ?_
      refine lv_goto (tgt := 16) C.1 C.2.1 dX7_isDay_12 (by decide) ?_
      subst ev_16
      exact KP_16

def sX7_isPerson (x0 : Int32) : Option ((Int32)) :=
gv (if x0 < 0 then (0 : Int32) else (if (8 : Int32) ≤ x0 then (0 : Int32) else (1 : Int32))) fun v_15 =>
some v_15
set_option maxRecDepth 100000 in
set_option maxHeartbeats 8000000 in
theorem kX7_isPerson (l : Launch) (x0 : Int32) (r : Int32) (hs : sX7_isPerson x0 = some r) : McS l yX7_isPerson cX7_isPerson 1 (some .boolean) 0 [.int x0] (some (.int r)) := by
  refine S_start rfl (Nat.le_of_ble_eq_true rfl) ?_
  intro p e s m args below meth c H locs C hI ls hl
  have hl : lv_has ls 1 [(0, .int x0)] := hl
  rw [sX7_isPerson] at hs
  refine lv_iload_n C.1 C.2.1 dX7_isPerson_0 rfl (lv_at hl 0 rfl) ?_
  obtain ⟨v_15, ev_15, hs⟩ := gv_ex hs
  have KP_15 : W p l e (rmL 0) s m args below meth c H locs 0 0 (MQ below (fun _ st oc t => oc = .returned (some (.int r)) ∧ t.heap = st.heap) args s 0 0 (fun _ => False)) (F0 m 15 ls [.int v_15]) := by
    obtain rfl := Option.some.inj hs
    exact S_zret C hI (isB_ev ev_15 (by (repeat' split) <;> decide)) dX7_isPerson_15
  refine lv_if_lt (tgt := 14) C.1 C.2.1 dX7_isPerson_1 (by decide) (fun cn => ?_) (fun cn => ?_)
  · have ev_15 := if_t' cn ev_15
    refine lv_iconst (v := 0) C.1 C.2.1 dX7_isPerson_14 (by decide) ?_
    subst ev_15
    exact KP_15
  · have ev_15 := if_f' cn ev_15
    refine lv_iload_n C.1 C.2.1 dX7_isPerson_4 rfl (lv_at hl 0 rfl) ?_
    refine lv_bipush (v := 8) C.1 C.2.1 dX7_isPerson_5 (by decide) ?_
    refine lv_icmp_ge (tgt := 14) C.1 C.2.1 dX7_isPerson_7 (by decide) (fun cn => ?_) (fun cn => ?_)
    · have ev_15 := if_t' cn ev_15
      refine lv_iconst (v := 0) C.1 C.2.1 dX7_isPerson_14 (by decide) ?_
      subst ev_15
      exact KP_15
    · have ev_15 := if_f' cn ev_15
      refine lv_iconst (v := 1) C.1 C.2.1 dX7_isPerson_10 (by decide) ?_
      refine lv_goto (tgt := 15) C.1 C.2.1 dX7_isPerson_11 (by decide) ?_
      subst ev_15
      exact KP_15

def sX7_isFact (x0 : Int32) : Option ((Int32)) :=
gv (if x0 < 0 then (0 : Int32) else (if (8 : Int32) ≤ x0 then (0 : Int32) else (1 : Int32))) fun v_15 =>
some v_15
set_option maxRecDepth 100000 in
set_option maxHeartbeats 8000000 in
theorem kX7_isFact (l : Launch) (x0 : Int32) (r : Int32) (hs : sX7_isFact x0 = some r) : McS l yX7_isFact cX7_isFact 1 (some .boolean) 0 [.int x0] (some (.int r)) := by
  refine S_start rfl (Nat.le_of_ble_eq_true rfl) ?_
  intro p e s m args below meth c H locs C hI ls hl
  have hl : lv_has ls 1 [(0, .int x0)] := hl
  rw [sX7_isFact] at hs
  refine lv_iload_n C.1 C.2.1 dX7_isFact_0 rfl (lv_at hl 0 rfl) ?_
  obtain ⟨v_15, ev_15, hs⟩ := gv_ex hs
  have KP_15 : W p l e (rmL 0) s m args below meth c H locs 0 0 (MQ below (fun _ st oc t => oc = .returned (some (.int r)) ∧ t.heap = st.heap) args s 0 0 (fun _ => False)) (F0 m 15 ls [.int v_15]) := by
    obtain rfl := Option.some.inj hs
    exact S_zret C hI (isB_ev ev_15 (by (repeat' split) <;> decide)) dX7_isFact_15
  refine lv_if_lt (tgt := 14) C.1 C.2.1 dX7_isFact_1 (by decide) (fun cn => ?_) (fun cn => ?_)
  · have ev_15 := if_t' cn ev_15
    refine lv_iconst (v := 0) C.1 C.2.1 dX7_isFact_14 (by decide) ?_
    subst ev_15
    exact KP_15
  · have ev_15 := if_f' cn ev_15
    refine lv_iload_n C.1 C.2.1 dX7_isFact_4 rfl (lv_at hl 0 rfl) ?_
    refine lv_bipush (v := 8) C.1 C.2.1 dX7_isFact_5 (by decide) ?_
    refine lv_icmp_ge (tgt := 14) C.1 C.2.1 dX7_isFact_7 (by decide) (fun cn => ?_) (fun cn => ?_)
    · have ev_15 := if_t' cn ev_15
      refine lv_iconst (v := 0) C.1 C.2.1 dX7_isFact_14 (by decide) ?_
      subst ev_15
      exact KP_15
    · have ev_15 := if_f' cn ev_15
      refine lv_iconst (v := 1) C.1 C.2.1 dX7_isFact_10 (by decide) ?_
      refine lv_goto (tgt := 15) C.1 C.2.1 dX7_isFact_11 (by decide) ?_
      subst ev_15
      exact KP_15

def sX7_isBlowing (x1 : Int32) (x2 : Int32) (I : Nat → Int32) (J : Nat → Int64) (A : Nat → Nat → Int32) (B : Nat → Nat → Int64) : Option ((Int32)) :=
gv (if x1 < 0 then (0 : Int32) else (if (I 32) ≤ x1 then (0 : Int32) else (if x2 = 0 then (1 : Int32) else (if x2 = (1 : Int32) then (1 : Int32) else (0 : Int32))))) fun v_32 =>
some v_32
set_option maxRecDepth 100000 in
set_option maxHeartbeats 8000000 in
theorem kX7_isBlowing (l : Launch) (D : va_G) (cy : Nat → ClassId) (P0 : Nat → Prop) (q z : Nat → Nat) (tl : va_W) (xx : (Nat → Option Nat) × (Nat → Option Nat) × Nat) (x1 : Int32) (x2 : Int32) (I : Nat → Int32) (J : Nat → Int64) (A : Nat → Nat → Int32) (B : Nat → Nat → Int64) (r : Int32) (hs : sX7_isBlowing x1 x2 I J A B = some r) : McC l yX7_isBlowing cX7_isBlowing 3 (some .boolean) 0 [.ref (q 99), .int x1, .int x2] D cy P0 q z tl xx I J A B (some (.int r)) xx I J A B := by
  refine C_start rfl (Nat.le_of_ble_eq_true rfl) ?_
  intro p e s m args below meth c H locs C hI ls hl
  have hl : lv_has ls 3 [(0, .ref (q 99)), (1, .int x1), (2, .int x2)] := hl
  rw [sX7_isBlowing] at hs
  refine lv_iload_n C.1 C.2.1 dX7_isBlowing_0 rfl (lv_at hl 1 rfl) ?_
  obtain ⟨v_32, ev_32, hs⟩ := gv_ex hs
  have KP_32 : W p l e (rmL 0) s m args below meth c H locs 0 0 (MQ below (cQ D cy P0 q tl (some (.int r)) xx I J A B) args s 0 0 P0) (F0 m 32 ls [.int v_32]) := by
    obtain rfl := Option.some.inj hs
    exact C_zret C hI (isB_ev ev_32 (by (repeat' split) <;> decide)) dX7_isBlowing_32
  refine lv_if_lt (tgt := 31) C.1 C.2.1 dX7_isBlowing_1 (by decide) (fun cn => ?_) (fun cn => ?_)
  · have ev_32 := if_t' cn ev_32
    refine lv_iconst (v := 0) C.1 C.2.1 dX7_isBlowing_31 (by decide) ?_
    subst ev_32
    exact KP_32
  · have ev_32 := if_f' cn ev_32
    refine lv_iload_n C.1 C.2.1 dX7_isBlowing_4 rfl (lv_at hl 1 rfl) ?_
    refine lv_aload_n C.1 C.2.1 dX7_isBlowing_5 rfl (lv_at hl 0 rfl) ?_
    refine cg_X7_0 C hI dX7_isBlowing_6 ?_
    refine cg_X7_17 C hI dX7_isBlowing_9 ?_
    refine cg_X7_32 C hI dX7_isBlowing_12 ?_
    refine lv_icmp_ge (tgt := 31) C.1 C.2.1 dX7_isBlowing_15 (by decide) (fun cn => ?_) (fun cn => ?_)
    · have ev_32 := if_t' cn ev_32
      refine lv_iconst (v := 0) C.1 C.2.1 dX7_isBlowing_31 (by decide) ?_
      subst ev_32
      exact KP_32
    · have ev_32 := if_f' cn ev_32
      refine lv_iload_n C.1 C.2.1 dX7_isBlowing_18 rfl (lv_at hl 2 rfl) ?_
      refine lv_if_eq (tgt := 27) C.1 C.2.1 dX7_isBlowing_19 (by decide) (fun cn => ?_) (fun cn => ?_)
      · have ev_32 := if_t' cn ev_32
        refine lv_iconst (v := 1) C.1 C.2.1 dX7_isBlowing_27 (by decide) ?_
        refine lv_goto (tgt := 32) C.1 C.2.1 dX7_isBlowing_28 (by decide) ?_
        subst ev_32
        exact KP_32
      · have ev_32 := if_f' cn ev_32
        refine lv_iload_n C.1 C.2.1 dX7_isBlowing_22 rfl (lv_at hl 2 rfl) ?_
        refine lv_iconst (v := 1) C.1 C.2.1 dX7_isBlowing_23 (by decide) ?_
        refine lv_icmp_ne (tgt := 31) C.1 C.2.1 dX7_isBlowing_24 (by decide) (fun cn => ?_) (fun cn => ?_)
        · have ev_32 := if_f' cn ev_32
          refine lv_iconst (v := 0) C.1 C.2.1 dX7_isBlowing_31 (by decide) ?_
          subst ev_32
          exact KP_32
        · have ev_32 := if_t' cn ev_32
          refine lv_iconst (v := 1) C.1 C.2.1 dX7_isBlowing_27 (by decide) ?_
          refine lv_goto (tgt := 32) C.1 C.2.1 dX7_isBlowing_28 (by decide) ?_
          subst ev_32
          exact KP_32

def lX7_writeBytes_3 : Nat → Int32 → Int32 → (Nat → Int32) → (Nat → Int64) → (Nat → Nat → Int32) → (Nat → Nat → Int64) → Option (((Nat → Int32) × (Nat → Nat → Int32)) ⊕ ((Nat → Int32) × (Nat → Nat → Int32)))
  | 0, _, _, _, _, _, _ => none
  | n + 1, x1, x2, I, J, A, B =>
    if x2 < 0 then
    (some (.inr (I, A)))
    else
    if (I 7) < (400 : Int32) then
    (ck (inB (I 7) 400) <|
    gv (va_up A 6 (upd (A 6) (ix (I 7)) ((ushr x1 x2) &&& (255 : Int32)))) fun A =>
    gv (upd I 7 ((I 7) + (1 : Int32))) fun I =>
    gv (x2 + (-8)) fun x2_44 =>
    lX7_writeBytes_3 n x1 x2_44 I J A B)
    else
    some (.inl (I, A))
def sX7_writeBytes (x1 : Int32) (I : Nat → Int32) (J : Nat → Int64) (A : Nat → Nat → Int32) (B : Nat → Nat → Int64) : Option ((Nat → Int32) × (Nat → Nat → Int32)) :=
(lX7_writeBytes_3 FU x1 (24 : Int32) I J A B).bind fun o_3 => match o_3 with
| .inl (I, A) =>
some (I, A)
| .inr (I, A) =>
some (I, A)
set_option maxRecDepth 100000 in
set_option maxHeartbeats 8000000 in
theorem kX7_writeBytes (l : Launch) (D : va_G) (cy : Nat → ClassId) (P0 : Nat → Prop) (q z : Nat → Nat) (tl : va_W) (xx : (Nat → Option Nat) × (Nat → Option Nat) × Nat) (x1 : Int32) (I : Nat → Int32) (J : Nat → Int64) (A : Nat → Nat → Int32) (B : Nat → Nat → Int64) (I2 : Nat → Int32) (A2 : Nat → Nat → Int32) (hs : sX7_writeBytes x1 I J A B = some (I2, A2)) : McC l yX7_writeBytes cX7_writeBytes 3 none 0 [.ref (q 99), .int x1] D cy P0 q z tl xx I J A B none xx I2 J A2 B := by
  refine C_start rfl (Nat.le_of_ble_eq_true rfl) ?_
  intro p e s m args below meth c H locs C hI ls hl
  have hl : lv_has ls 3 [(0, .ref (q 99)), (1, .int x1)] := hl
  rw [sX7_writeBytes] at hs
  refine lv_bipush (v := 24) C.1 C.2.1 dX7_writeBytes_0 (by decide) ?_
  refine lv_istore_n (lv' := [(2, .int (24 : Int32)), (0, .ref (q 99)), (1, .int x1)]) C.1 C.2.1 dX7_writeBytes_2 rfl hl (by decide) rfl (fun ls hl => ?_)
  have KL_3 : ∀ (n : Nat) (x1 : Int32) (x2 : Int32) (I : Nat → Int32) (J : Nat → Int64) (A : Nat → Nat → Int32) (B : Nat → Nat → Int64) (o : ((Nat → Int32) × (Nat → Nat → Int32)) ⊕ ((Nat → Int32) × (Nat → Nat → Int32))) (Q : State → Prop) (H : Heap) (locs : List Loc) (ls : Array Slot), lX7_writeBytes_3 n x1 x2 I J A B = some o → CI D cy s P0 s.heap H locs q z tl xx I J A B → lv_has ls 3 [(0, .ref (q 99)), (1, .int x1), (2, .int x2)] → (∀ (I_0 : Nat → Int32) (A_0 : Nat → Nat → Int32) (H : Heap) (locs : List Loc) (ls : Array Slot), o = (.inl (I_0, A_0)) → CI D cy s P0 s.heap H locs q z tl xx I_0 J A_0 B → lv_has ls 3 [] → W p l e (rmL 0) s m args below meth c H locs 0 0 Q (F0 m 17 ls [])) → (∀ (I_1 : Nat → Int32) (A_1 : Nat → Nat → Int32) (H : Heap) (locs : List Loc) (ls : Array Slot), o = (.inr (I_1, A_1)) → CI D cy s P0 s.heap H locs q z tl xx I_1 J A_1 B → lv_has ls 3 [] → W p l e (rmL 0) s m args below meth c H locs 0 0 Q (F0 m 50 ls [])) → W p l e (rmL 0) s m args below meth c H locs 0 0 Q (F0 m 3 ls []) := by
    intro n; induction n with
    | zero => intro x1 x2 I J A B o Q H locs ls hs; rw [lX7_writeBytes_3] at hs; cases hs
    | succ n ih =>
      intro x1 x2 I J A B o Q H locs ls hs hI hl kk0 kk1
      rw [lX7_writeBytes_3] at hs
      refine lv_iload_n C.1 C.2.1 dX7_writeBytes_3 rfl (lv_at hl 2 rfl) ?_
      refine lv_if_lt (tgt := 50) C.1 C.2.1 dX7_writeBytes_4 (by decide) (fun cn => ?_) (fun cn => ?_)
      · have hs := if_t cn hs
        have eo := (Option.some.inj hs).symm
        exact kk1 _ _ _ _ _ eo hI (lv_sub hl [] rfl)
      · have hs := if_f cn hs
        refine lv_aload_n C.1 C.2.1 dX7_writeBytes_7 rfl (lv_at hl 0 rfl) ?_
        refine cg_X7_7 C hI dX7_writeBytes_8 ?_
        refine lv_sipush (v := 400) C.1 C.2.1 dX7_writeBytes_11 (by decide) ?_
        refine lv_icmp_lt (tgt := 18) C.1 C.2.1 dX7_writeBytes_14 (by decide) (fun cn => ?_) (fun cn => ?_)
        · have hs := if_t cn hs
          refine lv_aload_n C.1 C.2.1 dX7_writeBytes_18 rfl (lv_at hl 0 rfl) ?_
          refine cg_X7_6 C hI dX7_writeBytes_19 ?_
          refine lv_aload_n C.1 C.2.1 dX7_writeBytes_22 rfl (lv_at hl 0 rfl) ?_
          refine cg_X7_7 C hI dX7_writeBytes_23 ?_
          refine lv_iload_n C.1 C.2.1 dX7_writeBytes_26 rfl (lv_at hl 1 rfl) ?_
          refine lv_iload_n C.1 C.2.1 dX7_writeBytes_27 rfl (lv_at hl 2 rfl) ?_
          refine lv_iushr (v := ushr _ _) C.1 C.2.1 dX7_writeBytes_28 rfl ?_
          refine lv_sipush (v := 255) C.1 C.2.1 dX7_writeBytes_29 (by decide) ?_
          refine lv_iand C.1 C.2.1 dX7_writeBytes_32 ?_
          obtain ⟨hk, hs⟩ := ck_e hs
          refine cs_6 C hI hk dX7_writeBytes_33 (fun H locs hI => ?_)
          have hs := gv_be hs
          refine lv_aload_n C.1 C.2.1 dX7_writeBytes_34 rfl (lv_at hl 0 rfl) ?_
          refine lv_dup C.1 C.2.1 dX7_writeBytes_35 rfl ?_
          refine cg_X7_7 C hI dX7_writeBytes_36 ?_
          refine lv_iconst (v := 1) C.1 C.2.1 dX7_writeBytes_39 (by decide) ?_
          refine lv_iadd C.1 C.2.1 dX7_writeBytes_40 ?_
          refine cp_X7_7 C hI dX7_writeBytes_41 (fun H locs hI => ?_)
          have hs := gv_be hs
          obtain ⟨x2_44, ex2_44⟩ : ∃ y : Int32, y = (x2 + (-8)) := ⟨_, rfl⟩
          have hs := gv_at ex2_44 hs
          refine lv_iinc (v := x2_44) (lv' := [(2, .int x2_44), (0, .ref (q 99)), (1, .int x1)]) C.1 C.2.1 dX7_writeBytes_44 hl (k := 2) rfl (by rw [ex2_44]; rfl) (by decide) rfl (fun ls hl => ?_)
          refine lv_goto (tgt := 3) C.1 C.2.1 dX7_writeBytes_47 (by decide) ?_
          exact ih _ _ _ _ _ _ _ _ _ _ _ hs hI (lv_sub hl [1, 2, 0] rfl) kk0 kk1
        · have hs := if_f cn hs
          have eo := (Option.some.inj hs).symm
          exact kk0 _ _ _ _ _ eo hI (lv_sub hl [] rfl)
  obtain ⟨o_3, hL, hs⟩ := bd_e hs
  refine KL_3 FU _ _ _ _ _ _ _ _ _ _ _ hL hI (lv_sub hl [1, 2, 0] rfl) (fun I A H locs ls eo hI hl => ?_) (fun I A H locs ls eo hI hl => ?_)
  · rw [eo] at hs
    obtain ⟨rfl, rfl⟩ := so2 hs
    exact C_vret C hI dX7_writeBytes_17
  · rw [eo] at hs
    obtain ⟨rfl, rfl⟩ := so2 hs
    exact C_vret C hI dX7_writeBytes_50

def sX7_takeTape (I : Nat → Int32) (J : Nat → Int64) (A : Nat → Nat → Int32) (B : Nat → Nat → Int64) : Option ((Int32) × (Nat → Int32)) :=
gv (I 7) fun x1_4 =>
gv (upd I 7 (0 : Int32)) fun I =>
some (x1_4, I)
set_option maxRecDepth 100000 in
set_option maxHeartbeats 8000000 in
theorem kX7_takeTape (l : Launch) (D : va_G) (cy : Nat → ClassId) (P0 : Nat → Prop) (q z : Nat → Nat) (tl : va_W) (xx : (Nat → Option Nat) × (Nat → Option Nat) × Nat) (I : Nat → Int32) (J : Nat → Int64) (A : Nat → Nat → Int32) (B : Nat → Nat → Int64) (r : Int32) (I2 : Nat → Int32) (hs : sX7_takeTape I J A B = some (r, I2)) : McC l yX7_takeTape cX7_takeTape 2 (some .int) 0 [.ref (q 99)] D cy P0 q z tl xx I J A B (some (.int r)) xx I2 J A B := by
  refine C_start rfl (Nat.le_of_ble_eq_true rfl) ?_
  intro p e s m args below meth c H locs C hI ls hl
  have hl : lv_has ls 2 [(0, .ref (q 99))] := hl
  rw [sX7_takeTape] at hs
  refine lv_aload_n C.1 C.2.1 dX7_takeTape_0 rfl (lv_at hl 0 rfl) ?_
  refine cg_X7_7 C hI dX7_takeTape_1 ?_
  refine lv_topi (fun x1_4 ex1_4 => ?_)
  have hs := gv_at ex1_4 hs
  refine lv_istore_n (lv' := [(1, .int x1_4), (0, .ref (q 99))]) C.1 C.2.1 dX7_takeTape_4 rfl hl (by decide) rfl (fun ls hl => ?_)
  refine lv_aload_n C.1 C.2.1 dX7_takeTape_5 rfl (lv_at hl 1 rfl) ?_
  refine lv_iconst (v := 0) C.1 C.2.1 dX7_takeTape_6 (by decide) ?_
  refine cp_X7_7 C hI dX7_takeTape_7 (fun H locs hI => ?_)
  have hs := gv_be hs
  refine lv_iload_n C.1 C.2.1 dX7_takeTape_10 rfl (lv_at hl 0 rfl) ?_
  obtain ⟨rfl, rfl⟩ := so2 hs
  exact C_iret C hI dX7_takeTape_11

def sX0_faceJoint (x2 : Int32) (x3 : Int32) (I : Nat → Int32) (J : Nat → Int64) (A : Nat → Nat → Int32) (B : Nat → Nat → Int64) : Option ((Nat → Nat → Int32)) :=
gv (va_up A 96 (fillA 14 (0 : Int32) (A 96))) fun A =>
ck (inB (x2 / (8 : Int32)) 6) <|
gv (va_up A 96 (upd (A 96) (ix (1 : Int32)) (A 14 (ix (x2 / (8 : Int32)))))) fun A =>
gv (va_up A 96 (upd (A 96) (ix (2 : Int32)) (x2 / (8 : Int32)))) fun A =>
(sX1_faceOf x2).bind fun r_39 =>
gv (va_up A 96 (upd (A 96) (ix (3 : Int32)) r_39)) fun A =>
gv (va_up A 96 (upd (A 96) (ix (4 : Int32)) x3)) fun A =>
(sX4_holdOf x2 I J A B).bind fun r_57 =>
gv (va_up A 96 (upd (A 96) (ix (5 : Int32)) r_57)) fun A =>
gv (va_up A 96 (upd (A 96) (ix (6 : Int32)) (A 15 (ix (3 : Int32))))) fun A =>
ck (inB x2 48) <|
gv (va_up A 96 (upd (A 96) (ix (10 : Int32)) ((1 : Int32) - (A 11 (ix x2))))) fun A =>
ck (inB x2 48) <|
gv (va_up A 96 (upd (A 96) (ix (11 : Int32)) (A 11 (ix x2)))) fun A =>
ck (inB x2 48) <|
if (A 11 (ix x2)) = (1 : Int32) then
(ck (inB x2 48) <|
if (A 12 (ix x2)) ≤ 0 then
(gv (va_up A 96 (upd (A 96) (ix (12 : Int32)) (0 : Int32))) fun A =>
some A)
else
gv (va_up A 96 (upd (A 96) (ix (12 : Int32)) (1 : Int32))) fun A =>
some A)
else
gv (va_up A 96 (upd (A 96) (ix (12 : Int32)) (0 : Int32))) fun A =>
some A
set_option maxRecDepth 100000 in
set_option maxHeartbeats 8000000 in
theorem kX0_faceJoint (l : Launch) (D : va_G) (cy : Nat → ClassId) (P0 : Nat → Prop) (q z : Nat → Nat) (tl : va_W) (xx : (Nat → Option Nat) × (Nat → Option Nat) × Nat) (x2 : Int32) (x3 : Int32) (I : Nat → Int32) (J : Nat → Int64) (A : Nat → Nat → Int32) (B : Nat → Nat → Int64) (A2 : Nat → Nat → Int32) (hs : sX0_faceJoint x2 x3 I J A B = some A2) : McC l yX0_faceJoint cX0_faceJoint 4 none 1 [.ref (q 5), .ref (q 0), .int x2, .int x3] D cy P0 q z tl xx I J A B none xx I J A2 B := by
  refine C_start rfl (Nat.le_of_ble_eq_true rfl) ?_
  intro p e s m args below meth c H locs C hI ls hl
  have hl : lv_has ls 4 [(0, .ref (q 5)), (1, .ref (q 0)), (2, .int x2), (3, .int x3)] := hl
  rw [sX0_faceJoint] at hs
  refine lv_aload_n C.1 C.2.1 dX0_faceJoint_0 rfl (lv_at hl 0 rfl) ?_
  refine cg_X0_96 C hI dX0_faceJoint_1 ?_
  refine lv_iconst (v := 0) C.1 C.2.1 dX0_faceJoint_4 (by decide) ?_
  refine c_fill_96 C hI ml_X0_27 (by decide) hl.1 (Nat.le_of_ble_eq_true rfl) dX0_faceJoint_5 (fun H locs hI => ?_)
  have hs := gv_be hs
  refine lv_aload_n C.1 C.2.1 dX0_faceJoint_8 rfl (lv_at hl 0 rfl) ?_
  refine cg_X0_96 C hI dX0_faceJoint_9 ?_
  refine lv_iconst (v := 1) C.1 C.2.1 dX0_faceJoint_12 (by decide) ?_
  refine lv_aload_n C.1 C.2.1 dX0_faceJoint_13 rfl (lv_at hl 1 rfl) ?_
  refine cg_X0_14 C hI dX0_faceJoint_14 ?_
  refine lv_iload_n C.1 C.2.1 dX0_faceJoint_17 rfl (lv_at hl 2 rfl) ?_
  refine lv_bipush (v := 8) C.1 C.2.1 dX0_faceJoint_18 (by decide) ?_
  refine lv_idiv C.1 C.2.1 dX0_faceJoint_20 (by decide) ?_
  obtain ⟨hk, hs⟩ := ck_e hs
  refine ca_14 C hI hk dX0_faceJoint_21 ?_
  refine cs_96 C hI (by decide) dX0_faceJoint_22 (fun H locs hI => ?_)
  have hs := gv_be hs
  refine lv_aload_n C.1 C.2.1 dX0_faceJoint_23 rfl (lv_at hl 0 rfl) ?_
  refine cg_X0_96 C hI dX0_faceJoint_24 ?_
  refine lv_iconst (v := 2) C.1 C.2.1 dX0_faceJoint_27 (by decide) ?_
  refine lv_iload_n C.1 C.2.1 dX0_faceJoint_28 rfl (lv_at hl 2 rfl) ?_
  refine lv_bipush (v := 8) C.1 C.2.1 dX0_faceJoint_29 (by decide) ?_
  refine lv_idiv C.1 C.2.1 dX0_faceJoint_31 (by decide) ?_
  refine cs_96 C hI (by decide) dX0_faceJoint_32 (fun H locs hI => ?_)
  have hs := gv_be hs
  refine lv_aload_n C.1 C.2.1 dX0_faceJoint_33 rfl (lv_at hl 0 rfl) ?_
  refine cg_X0_96 C hI dX0_faceJoint_34 ?_
  refine lv_iconst (v := 3) C.1 C.2.1 dX0_faceJoint_37 (by decide) ?_
  refine lv_iload_n C.1 C.2.1 dX0_faceJoint_38 rfl (lv_at hl 2 rfl) ?_
  obtain ⟨r_39, hc, hs⟩ := bd_e hs
  refine S_call (h := 1) C (kX1_faceOf l _ _ hc) ml_X0_38 st_X1_faceOf ini_X1 co_X1_faceOf hyX1_faceOf rfl ⟨by decide, by decide⟩ hl.1 rfl (Nat.le_of_ble_eq_true rfl) dX0_faceJoint_39 ⟨Nat.le_refl 0, Nat.le_refl 0, Nat.le_refl _, Nat.le_refl _⟩ ?_
  refine cs_96 C hI (by decide) dX0_faceJoint_42 (fun H locs hI => ?_)
  have hs := gv_be hs
  refine lv_aload_n C.1 C.2.1 dX0_faceJoint_43 rfl (lv_at hl 0 rfl) ?_
  refine cg_X0_96 C hI dX0_faceJoint_44 ?_
  refine lv_iconst (v := 4) C.1 C.2.1 dX0_faceJoint_47 (by decide) ?_
  refine lv_iload_n C.1 C.2.1 dX0_faceJoint_48 rfl (lv_at hl 3 rfl) ?_
  refine cs_96 C hI (by decide) dX0_faceJoint_49 (fun H locs hI => ?_)
  have hs := gv_be hs
  refine lv_aload_n C.1 C.2.1 dX0_faceJoint_50 rfl (lv_at hl 0 rfl) ?_
  refine cg_X0_96 C hI dX0_faceJoint_51 ?_
  refine lv_iconst (v := 5) C.1 C.2.1 dX0_faceJoint_54 (by decide) ?_
  refine lv_aload_n C.1 C.2.1 dX0_faceJoint_55 rfl (lv_at hl 1 rfl) ?_
  refine lv_iload_n C.1 C.2.1 dX0_faceJoint_56 rfl (lv_at hl 2 rfl) ?_
  obtain ⟨r_57, hc, hs⟩ := bd_e hs
  refine C_call C hI (kX4_holdOf l D cy P0 q z tl xx _ _ _ _ _ _ hc) (rv_X4 hI) ml_X0_44 im_X4_holdOf se_X4_holdOf ini_X4 co_X4_holdOf hyX4_holdOf rfl ⟨by decide, by decide⟩ hl.1 rfl (Nat.le_of_ble_eq_true rfl) dX0_faceJoint_57 (fun H locs hI => ?_)
  refine cs_96 C hI (by decide) dX0_faceJoint_60 (fun H locs hI => ?_)
  have hs := gv_be hs
  refine lv_aload_n C.1 C.2.1 dX0_faceJoint_61 rfl (lv_at hl 0 rfl) ?_
  refine cg_X0_96 C hI dX0_faceJoint_62 ?_
  refine lv_bipush (v := 6) C.1 C.2.1 dX0_faceJoint_65 (by decide) ?_
  refine lv_aload_n C.1 C.2.1 dX0_faceJoint_67 rfl (lv_at hl 1 rfl) ?_
  refine cg_X0_15 C hI dX0_faceJoint_68 ?_
  refine lv_iconst (v := 3) C.1 C.2.1 dX0_faceJoint_71 (by decide) ?_
  refine ca_15 C hI (by decide) dX0_faceJoint_72 ?_
  refine cs_96 C hI (by decide) dX0_faceJoint_73 (fun H locs hI => ?_)
  have hs := gv_be hs
  refine lv_aload_n C.1 C.2.1 dX0_faceJoint_74 rfl (lv_at hl 0 rfl) ?_
  refine cg_X0_96 C hI dX0_faceJoint_75 ?_
  refine lv_bipush (v := 10) C.1 C.2.1 dX0_faceJoint_78 (by decide) ?_
  refine lv_iconst (v := 1) C.1 C.2.1 dX0_faceJoint_80 (by decide) ?_
  refine lv_aload_n C.1 C.2.1 dX0_faceJoint_81 rfl (lv_at hl 1 rfl) ?_
  refine cg_X0_11 C hI dX0_faceJoint_82 ?_
  refine lv_iload_n C.1 C.2.1 dX0_faceJoint_85 rfl (lv_at hl 2 rfl) ?_
  obtain ⟨hk, hs⟩ := ck_e hs
  refine ca_11 C hI hk dX0_faceJoint_86 ?_
  refine lv_isub C.1 C.2.1 dX0_faceJoint_87 ?_
  refine cs_96 C hI (by decide) dX0_faceJoint_88 (fun H locs hI => ?_)
  have hs := gv_be hs
  refine lv_aload_n C.1 C.2.1 dX0_faceJoint_89 rfl (lv_at hl 0 rfl) ?_
  refine cg_X0_96 C hI dX0_faceJoint_90 ?_
  refine lv_bipush (v := 11) C.1 C.2.1 dX0_faceJoint_93 (by decide) ?_
  refine lv_aload_n C.1 C.2.1 dX0_faceJoint_95 rfl (lv_at hl 1 rfl) ?_
  refine cg_X0_11 C hI dX0_faceJoint_96 ?_
  refine lv_iload_n C.1 C.2.1 dX0_faceJoint_99 rfl (lv_at hl 2 rfl) ?_
  obtain ⟨hk, hs⟩ := ck_e hs
  refine ca_11 C hI hk dX0_faceJoint_100 ?_
  refine cs_96 C hI (by decide) dX0_faceJoint_101 (fun H locs hI => ?_)
  have hs := gv_be hs
  refine lv_aload_n C.1 C.2.1 dX0_faceJoint_102 rfl (lv_at hl 0 rfl) ?_
  refine cg_X0_96 C hI dX0_faceJoint_103 ?_
  refine lv_bipush (v := 12) C.1 C.2.1 dX0_faceJoint_106 (by decide) ?_
  refine lv_aload_n C.1 C.2.1 dX0_faceJoint_108 rfl (lv_at hl 1 rfl) ?_
  refine cg_X0_11 C hI dX0_faceJoint_109 ?_
  refine lv_iload_n C.1 C.2.1 dX0_faceJoint_112 rfl (lv_at hl 2 rfl) ?_
  obtain ⟨hk, hs⟩ := ck_e hs
  refine ca_11 C hI hk dX0_faceJoint_113 ?_
  refine lv_iconst (v := 1) C.1 C.2.1 dX0_faceJoint_114 (by decide) ?_
  refine lv_icmp_ne (tgt := 131) C.1 C.2.1 dX0_faceJoint_115 (by decide) (fun cn => ?_) (fun cn => ?_)
  · have hs := if_f cn hs
    refine lv_iconst (v := 0) C.1 C.2.1 dX0_faceJoint_131 (by decide) ?_
    refine cs_96 C hI (by decide) dX0_faceJoint_132 (fun H locs hI => ?_)
    have hs := gv_be hs
    obtain rfl := Option.some.inj hs
    exact C_vret C hI dX0_faceJoint_133
  · have hs := if_t cn hs
    refine lv_aload_n C.1 C.2.1 dX0_faceJoint_118 rfl (lv_at hl 1 rfl) ?_
    refine cg_X0_12 C hI dX0_faceJoint_119 ?_
    refine lv_iload_n C.1 C.2.1 dX0_faceJoint_122 rfl (lv_at hl 2 rfl) ?_
    obtain ⟨hk, hs⟩ := ck_e hs
    refine ca_12 C hI hk dX0_faceJoint_123 ?_
    refine lv_if_le (tgt := 131) C.1 C.2.1 dX0_faceJoint_124 (by decide) (fun cn => ?_) (fun cn => ?_)
    · have hs := if_t cn hs
      refine lv_iconst (v := 0) C.1 C.2.1 dX0_faceJoint_131 (by decide) ?_
      refine cs_96 C hI (by decide) dX0_faceJoint_132 (fun H locs hI => ?_)
      have hs := gv_be hs
      obtain rfl := Option.some.inj hs
      exact C_vret C hI dX0_faceJoint_133
    · have hs := if_f cn hs
      refine lv_iconst (v := 1) C.1 C.2.1 dX0_faceJoint_127 (by decide) ?_
      refine lv_goto (tgt := 132) C.1 C.2.1 dX0_faceJoint_128 (by decide) ?_
      refine cs_96 C hI (by decide) dX0_faceJoint_132 (fun H locs hI => ?_)
      have hs := gv_be hs
      obtain rfl := Option.some.inj hs
      exact C_vret C hI dX0_faceJoint_133

def sX0_faceTower (x2 : Int32) (I : Nat → Int32) (J : Nat → Int64) (A : Nat → Nat → Int32) (B : Nat → Nat → Int64) : Option ((Nat → Nat → Int32)) :=
gv (va_up A 96 (fillA 14 (0 : Int32) (A 96))) fun A =>
(sX5_cell 4 x2 (0 : Int32) I J A B).bind fun r_20 =>
gv (va_up A 96 (upd (A 96) (ix (7 : Int32)) r_20)) fun A =>
(sX5_cell 4 x2 (1 : Int32) I J A B).bind fun r_36 =>
gv (va_up A 96 (upd (A 96) (ix (8 : Int32)) r_36)) fun A =>
(sX5_cell 4 x2 (2 : Int32) I J A B).bind fun r_52 =>
gv (va_up A 96 (upd (A 96) (ix (9 : Int32)) r_52)) fun A =>
(sX5_cell 4 x2 (3 : Int32) I J A B).bind fun r_68 =>
gv (va_up A 96 (upd (A 96) (ix (6 : Int32)) r_68)) fun A =>
(sX5_cell 4 x2 (4 : Int32) I J A B).bind fun r_84 =>
gv (va_up A 96 (upd (A 96) (ix (11 : Int32)) r_84)) fun A =>
some A
set_option maxRecDepth 100000 in
set_option maxHeartbeats 8000000 in
theorem kX0_faceTower (l : Launch) (D : va_G) (cy : Nat → ClassId) (P0 : Nat → Prop) (q z : Nat → Nat) (tl : va_W) (xx : (Nat → Option Nat) × (Nat → Option Nat) × Nat) (x2 : Int32) (I : Nat → Int32) (J : Nat → Int64) (A : Nat → Nat → Int32) (B : Nat → Nat → Int64) (A2 : Nat → Nat → Int32) (hs : sX0_faceTower x2 I J A B = some A2) : McC l yX0_faceTower cX0_faceTower 3 none 1 [.ref (q 5), .ref (q 0), .int x2] D cy P0 q z tl xx I J A B none xx I J A2 B := by
  refine C_start rfl (Nat.le_of_ble_eq_true rfl) ?_
  intro p e s m args below meth c H locs C hI ls hl
  have hl : lv_has ls 3 [(0, .ref (q 5)), (1, .ref (q 0)), (2, .int x2)] := hl
  rw [sX0_faceTower] at hs
  refine lv_aload_n C.1 C.2.1 dX0_faceTower_0 rfl (lv_at hl 0 rfl) ?_
  refine cg_X0_96 C hI dX0_faceTower_1 ?_
  refine lv_iconst (v := 0) C.1 C.2.1 dX0_faceTower_4 (by decide) ?_
  refine c_fill_96 C hI ml_X0_27 (by decide) hl.1 (Nat.le_of_ble_eq_true rfl) dX0_faceTower_5 (fun H locs hI => ?_)
  have hs := gv_be hs
  refine lv_aload_n C.1 C.2.1 dX0_faceTower_8 rfl (lv_at hl 0 rfl) ?_
  refine cg_X0_96 C hI dX0_faceTower_9 ?_
  refine lv_bipush (v := 7) C.1 C.2.1 dX0_faceTower_12 (by decide) ?_
  refine lv_aload_n C.1 C.2.1 dX0_faceTower_14 rfl (lv_at hl 1 rfl) ?_
  refine cg_X0_21 C hI dX0_faceTower_15 ?_
  refine lv_iload_n C.1 C.2.1 dX0_faceTower_18 rfl (lv_at hl 2 rfl) ?_
  refine lv_iconst (v := 0) C.1 C.2.1 dX0_faceTower_19 (by decide) ?_
  obtain ⟨r_20, hc, hs⟩ := bd_e hs
  refine C_call C hI (kX5_cell l D cy P0 q z tl xx 4 (by decide) _ _ _ _ _ _ _ hc) (rv_X5 hI 4 (by decide)) ml_X0_60 im_X5_cell se_X5_cell ini_X5 co_X5_cell hyX5_cell rfl ⟨by decide, by decide⟩ hl.1 rfl (Nat.le_of_ble_eq_true rfl) dX0_faceTower_20 (fun H locs hI => ?_)
  refine cs_96 C hI (by decide) dX0_faceTower_23 (fun H locs hI => ?_)
  have hs := gv_be hs
  refine lv_aload_n C.1 C.2.1 dX0_faceTower_24 rfl (lv_at hl 0 rfl) ?_
  refine cg_X0_96 C hI dX0_faceTower_25 ?_
  refine lv_bipush (v := 8) C.1 C.2.1 dX0_faceTower_28 (by decide) ?_
  refine lv_aload_n C.1 C.2.1 dX0_faceTower_30 rfl (lv_at hl 1 rfl) ?_
  refine cg_X0_21 C hI dX0_faceTower_31 ?_
  refine lv_iload_n C.1 C.2.1 dX0_faceTower_34 rfl (lv_at hl 2 rfl) ?_
  refine lv_iconst (v := 1) C.1 C.2.1 dX0_faceTower_35 (by decide) ?_
  obtain ⟨r_36, hc, hs⟩ := bd_e hs
  refine C_call C hI (kX5_cell l D cy P0 q z tl xx 4 (by decide) _ _ _ _ _ _ _ hc) (rv_X5 hI 4 (by decide)) ml_X0_60 im_X5_cell se_X5_cell ini_X5 co_X5_cell hyX5_cell rfl ⟨by decide, by decide⟩ hl.1 rfl (Nat.le_of_ble_eq_true rfl) dX0_faceTower_36 (fun H locs hI => ?_)
  refine cs_96 C hI (by decide) dX0_faceTower_39 (fun H locs hI => ?_)
  have hs := gv_be hs
  refine lv_aload_n C.1 C.2.1 dX0_faceTower_40 rfl (lv_at hl 0 rfl) ?_
  refine cg_X0_96 C hI dX0_faceTower_41 ?_
  refine lv_bipush (v := 9) C.1 C.2.1 dX0_faceTower_44 (by decide) ?_
  refine lv_aload_n C.1 C.2.1 dX0_faceTower_46 rfl (lv_at hl 1 rfl) ?_
  refine cg_X0_21 C hI dX0_faceTower_47 ?_
  refine lv_iload_n C.1 C.2.1 dX0_faceTower_50 rfl (lv_at hl 2 rfl) ?_
  refine lv_iconst (v := 2) C.1 C.2.1 dX0_faceTower_51 (by decide) ?_
  obtain ⟨r_52, hc, hs⟩ := bd_e hs
  refine C_call C hI (kX5_cell l D cy P0 q z tl xx 4 (by decide) _ _ _ _ _ _ _ hc) (rv_X5 hI 4 (by decide)) ml_X0_60 im_X5_cell se_X5_cell ini_X5 co_X5_cell hyX5_cell rfl ⟨by decide, by decide⟩ hl.1 rfl (Nat.le_of_ble_eq_true rfl) dX0_faceTower_52 (fun H locs hI => ?_)
  refine cs_96 C hI (by decide) dX0_faceTower_55 (fun H locs hI => ?_)
  have hs := gv_be hs
  refine lv_aload_n C.1 C.2.1 dX0_faceTower_56 rfl (lv_at hl 0 rfl) ?_
  refine cg_X0_96 C hI dX0_faceTower_57 ?_
  refine lv_bipush (v := 6) C.1 C.2.1 dX0_faceTower_60 (by decide) ?_
  refine lv_aload_n C.1 C.2.1 dX0_faceTower_62 rfl (lv_at hl 1 rfl) ?_
  refine cg_X0_21 C hI dX0_faceTower_63 ?_
  refine lv_iload_n C.1 C.2.1 dX0_faceTower_66 rfl (lv_at hl 2 rfl) ?_
  refine lv_iconst (v := 3) C.1 C.2.1 dX0_faceTower_67 (by decide) ?_
  obtain ⟨r_68, hc, hs⟩ := bd_e hs
  refine C_call C hI (kX5_cell l D cy P0 q z tl xx 4 (by decide) _ _ _ _ _ _ _ hc) (rv_X5 hI 4 (by decide)) ml_X0_60 im_X5_cell se_X5_cell ini_X5 co_X5_cell hyX5_cell rfl ⟨by decide, by decide⟩ hl.1 rfl (Nat.le_of_ble_eq_true rfl) dX0_faceTower_68 (fun H locs hI => ?_)
  refine cs_96 C hI (by decide) dX0_faceTower_71 (fun H locs hI => ?_)
  have hs := gv_be hs
  refine lv_aload_n C.1 C.2.1 dX0_faceTower_72 rfl (lv_at hl 0 rfl) ?_
  refine cg_X0_96 C hI dX0_faceTower_73 ?_
  refine lv_bipush (v := 11) C.1 C.2.1 dX0_faceTower_76 (by decide) ?_
  refine lv_aload_n C.1 C.2.1 dX0_faceTower_78 rfl (lv_at hl 1 rfl) ?_
  refine cg_X0_21 C hI dX0_faceTower_79 ?_
  refine lv_iload_n C.1 C.2.1 dX0_faceTower_82 rfl (lv_at hl 2 rfl) ?_
  refine lv_iconst (v := 4) C.1 C.2.1 dX0_faceTower_83 (by decide) ?_
  obtain ⟨r_84, hc, hs⟩ := bd_e hs
  refine C_call C hI (kX5_cell l D cy P0 q z tl xx 4 (by decide) _ _ _ _ _ _ _ hc) (rv_X5 hI 4 (by decide)) ml_X0_60 im_X5_cell se_X5_cell ini_X5 co_X5_cell hyX5_cell rfl ⟨by decide, by decide⟩ hl.1 rfl (Nat.le_of_ble_eq_true rfl) dX0_faceTower_84 (fun H locs hI => ?_)
  refine cs_96 C hI (by decide) dX0_faceTower_87 (fun H locs hI => ?_)
  have hs := gv_be hs
  obtain rfl := Option.some.inj hs
  exact C_vret C hI dX0_faceTower_88

def sX0_joins (x1 : Int32) (I : Nat → Int32) (J : Nat → Int64) (A : Nat → Nat → Int32) (B : Nat → Nat → Int64) : Option ((Int32) × (Nat → Int32) × (Nat → Nat → Int64)) :=
(sX0_pop  I J A B).bind fun (r_1, I) =>
(sX0_pop  I J A B).bind fun (r_6, I) =>
gv (fun (I : Nat → Int32) (B : Nat → Nat → Int64) =>
if x1 = 42 then
(gv (r_6 * r_1) fun x6_106 =>
(sX0_push x6_106 I J A B).bind fun (I, B) =>
gv (if 0 < (lg_cmp x6_106 (1000000000 : Int64)) then (0 : Int32) else (if (lg_cmp x6_106 (-1000000000 : Int64)) < 0 then (0 : Int32) else (1 : Int32))) fun v_207 =>
some (v_207, I, B))
else
if x1 = 43 then
(gv (r_6 + r_1) fun x6_88 =>
(sX0_push x6_88 I J A B).bind fun (I, B) =>
gv (if 0 < (lg_cmp x6_88 (1000000000 : Int64)) then (0 : Int32) else (if (lg_cmp x6_88 (-1000000000 : Int64)) < 0 then (0 : Int32) else (1 : Int32))) fun v_207 =>
some (v_207, I, B))
else
if x1 = 45 then
(gv (r_6 - r_1) fun x6_97 =>
(sX0_push x6_97 I J A B).bind fun (I, B) =>
gv (if 0 < (lg_cmp x6_97 (1000000000 : Int64)) then (0 : Int32) else (if (lg_cmp x6_97 (-1000000000 : Int64)) < 0 then (0 : Int32) else (1 : Int32))) fun v_207 =>
some (v_207, I, B))
else
if x1 = 47 then
(gv (fun (y0_j125 : Int64) (I : Nat → Int32) (B : Nat → Nat → Int64) =>
(sX0_push y0_j125 I J A B).bind fun (I, B) =>
gv (if 0 < (lg_cmp y0_j125 (1000000000 : Int64)) then (0 : Int32) else (if (lg_cmp y0_j125 (-1000000000 : Int64)) < 0 then (0 : Int32) else (1 : Int32))) fun v_207 =>
some (v_207, I, B)) fun k_125 =>
if (lg_cmp r_1 (0 : Int64)) = 0 then
(k_125 (0 : Int64) I B)
else
ck (nzL r_1) <|
k_125 (r_6 / r_1) I B)
else
if x1 = 60 then
(gv (if 0 ≤ (lg_cmp r_6 r_1) then (0 : Int64) else (1 : Int64)) fun v_142 =>
(sX0_push v_142 I J A B).bind fun (I, B) =>
gv (if 0 < (lg_cmp v_142 (1000000000 : Int64)) then (0 : Int32) else (if (lg_cmp v_142 (-1000000000 : Int64)) < 0 then (0 : Int32) else (1 : Int32))) fun v_207 =>
some (v_207, I, B))
else
if x1 = 62 then
(gv (if (lg_cmp r_6 r_1) ≤ 0 then (0 : Int64) else (1 : Int64)) fun v_159 =>
(sX0_push v_159 I J A B).bind fun (I, B) =>
gv (if 0 < (lg_cmp v_159 (1000000000 : Int64)) then (0 : Int32) else (if (lg_cmp v_159 (-1000000000 : Int64)) < 0 then (0 : Int32) else (1 : Int32))) fun v_207 =>
some (v_207, I, B))
else
gv (if (lg_cmp r_6 r_1) = 0 then (1 : Int64) else (0 : Int64)) fun v_176 =>
(sX0_push v_176 I J A B).bind fun (I, B) =>
gv (if 0 < (lg_cmp v_176 (1000000000 : Int64)) then (0 : Int32) else (if (lg_cmp v_176 (-1000000000 : Int64)) < 0 then (0 : Int32) else (1 : Int32))) fun v_207 =>
some (v_207, I, B)) fun k_25 =>
if x1 = (47 : Int32) then
(if (lg_cmp r_1 (0 : Int64)) = 0 then
(some ((0 : Int32), I, B))
else
k_25 I B)
else
k_25 I B
set_option maxRecDepth 100000 in
set_option maxHeartbeats 8000000 in
theorem kX0_joins (l : Launch) (D : va_G) (cy : Nat → ClassId) (P0 : Nat → Prop) (q z : Nat → Nat) (tl : va_W) (xx : (Nat → Option Nat) × (Nat → Option Nat) × Nat) (x1 : Int32) (I : Nat → Int32) (J : Nat → Int64) (A : Nat → Nat → Int32) (B : Nat → Nat → Int64) (r : Int32) (I2 : Nat → Int32) (B2 : Nat → Nat → Int64) (hs : sX0_joins x1 I J A B = some (r, I2, B2)) : McC l yX0_joins cX0_joins 8 (some .boolean) 1 [.ref (q 5), .int x1] D cy P0 q z tl xx I J A B (some (.int r)) xx I2 J A B2 := by
  refine C_start rfl (Nat.le_of_ble_eq_true rfl) ?_
  intro p e s m args below meth c H locs C hI ls hl
  have hl : lv_has ls 8 [(0, .ref (q 5)), (1, .int x1)] := hl
  rw [sX0_joins] at hs
  refine lv_aload_n C.1 C.2.1 dX0_joins_0 rfl (lv_at hl 0 rfl) ?_
  obtain ⟨⟨r_1, I⟩, hc, hs⟩ := bd_e hs
  refine C_call C hI (kX0_pop l D cy P0 q z tl xx _ _ _ _ _ _ hc) (rv_X0 hI) ml_X0_97 im_X0_pop se_X0_pop ini_X0 co_X0_pop hyX0_pop rfl ⟨by decide, by decide⟩ hl.1 rfl (Nat.le_of_ble_eq_true rfl) dX0_joins_1 (fun H locs hI => ?_)
  refine lv_lstore_n (lv' := [(2, .long r_1), (0, .ref (q 5)), (1, .int x1)]) C.1 C.2.1 dX0_joins_4 rfl hl (by decide) rfl (fun ls hl => ?_)
  refine lv_aload_n C.1 C.2.1 dX0_joins_5 rfl (lv_at hl 1 rfl) ?_
  obtain ⟨⟨r_6, I⟩, hc, hs⟩ := bd_e hs
  refine C_call C hI (kX0_pop l D cy P0 q z tl xx _ _ _ _ _ _ hc) (rv_X0 hI) ml_X0_97 im_X0_pop se_X0_pop ini_X0 co_X0_pop hyX0_pop rfl ⟨by decide, by decide⟩ hl.1 rfl (Nat.le_of_ble_eq_true rfl) dX0_joins_6 (fun H locs hI => ?_)
  refine lv_lstore (lv' := [(4, .long r_6), (2, .long r_1), (0, .ref (q 5)), (1, .int x1)]) C.1 C.2.1 dX0_joins_9 hl (by decide) rfl (fun ls hl => ?_)
  refine lv_iload_n C.1 C.2.1 dX0_joins_11 rfl (lv_at hl 3 rfl) ?_
  refine lv_bipush (v := 47) C.1 C.2.1 dX0_joins_12 (by decide) ?_
  obtain ⟨k_25, ek_25, hs⟩ := gv_ex hs
  have KJ_25 : ∀ (I : Nat → Int32) (B : Nat → Nat → Int64) (H : Heap) (locs : List Loc) (ls : Array Slot), k_25 I B = some (r, I2, B2) → CI D cy s P0 s.heap H locs q z tl xx I J A B → lv_has ls 8 [(0, .ref (q 5)), (1, .int x1), (2, .long r_1), (4, .long r_6)] → W p l e (rmL 1) s m args below meth c H locs 0 0 (MQ below (cQ D cy P0 q tl (some (.int r)) xx I2 J A B2) args s 0 0 P0) (F0 m 25 ls []) := by
    intro I B H locs ls hs hI hl
    rw [ek_25] at hs
    refine lv_iload_n C.1 C.2.1 dX0_joins_25 rfl (lv_at hl 1 rfl) ?_
    by_cases c42 : x1 = 42
    · have hs := if_t c42 hs
      refine lv_lookup (off := 76) (tgt := 102) C.1 C.2.1 dX0_joins_26 (by decide) (by rw [c42]; rfl) (by decide) ?_
      refine lv_lload C.1 C.2.1 dX0_joins_102 (lv_at hl 3 rfl) ?_
      refine lv_lload_n C.1 C.2.1 dX0_joins_104 rfl (lv_at hl 2 rfl) ?_
      refine lv_lmul C.1 C.2.1 dX0_joins_105 ?_
      refine lv_topl (fun x6_106 ex6_106 => ?_)
      have hs := gv_at ex6_106 hs
      refine lv_lstore (lv' := [(6, .long x6_106), (0, .ref (q 5)), (1, .int x1), (2, .long r_1), (4, .long r_6)]) C.1 C.2.1 dX0_joins_106 hl (by decide) rfl (fun ls hl => ?_)
      refine lv_goto (tgt := 178) C.1 C.2.1 dX0_joins_108 (by decide) ?_
      refine lv_aload_n C.1 C.2.1 dX0_joins_178 rfl (lv_at hl 1 rfl) ?_
      refine lv_lload C.1 C.2.1 dX0_joins_179 (lv_at hl 0 rfl) ?_
      obtain ⟨⟨I, B⟩, hc, hs⟩ := bd_e hs
      refine C_call C hI (kX0_push l D cy P0 q z tl xx _ _ _ _ _ _ _ hc) (rv_X0 hI) ml_X0_90 im_X0_push se_X0_push ini_X0 co_X0_push hyX0_push rfl ⟨by decide, by decide⟩ hl.1 rfl (Nat.le_of_ble_eq_true rfl) dX0_joins_181 (fun H locs hI => ?_)
      refine lv_lload C.1 C.2.1 dX0_joins_184 (lv_at hl 0 rfl) ?_
      refine lv_ldc2 C.1 C.2.1 C.2.2.2.1 (C.2.2.2.2.1 _ kl_X0_107) dX0_joins_186 ?_
      refine W.lcmp C.1 C.2.1 dX0_joins_189 ?_
      obtain ⟨v_207, ev_207, hs⟩ := gv_ex hs
      have KP_207 : W p l e (rmL 1) s m args below meth c H locs 0 0 (MQ below (cQ D cy P0 q tl (some (.int r)) xx I2 J A B2) args s 0 0 P0) (F0 m 207 ls [.int v_207]) := by
        obtain ⟨rfl, rfl, rfl⟩ := so3 hs
        exact C_zret C hI (isB_ev ev_207 (by (repeat' split) <;> decide)) dX0_joins_207
      refine lv_if_gt (tgt := 206) C.1 C.2.1 dX0_joins_190 (by decide) (fun cn => ?_) (fun cn => ?_)
      · have ev_207 := if_t' cn ev_207
        refine lv_iconst (v := 0) C.1 C.2.1 dX0_joins_206 (by decide) ?_
        subst ev_207
        exact KP_207
      · have ev_207 := if_f' cn ev_207
        refine lv_lload C.1 C.2.1 dX0_joins_193 (lv_at hl 0 rfl) ?_
        refine lv_ldc2 C.1 C.2.1 C.2.2.2.1 (C.2.2.2.2.1 _ kl_X0_109) dX0_joins_195 ?_
        refine W.lcmp C.1 C.2.1 dX0_joins_198 ?_
        refine lv_if_lt (tgt := 206) C.1 C.2.1 dX0_joins_199 (by decide) (fun cn => ?_) (fun cn => ?_)
        · have ev_207 := if_t' cn ev_207
          refine lv_iconst (v := 0) C.1 C.2.1 dX0_joins_206 (by decide) ?_
          subst ev_207
          exact KP_207
        · have ev_207 := if_f' cn ev_207
          refine lv_iconst (v := 1) C.1 C.2.1 dX0_joins_202 (by decide) ?_
          refine lv_goto (tgt := 207) C.1 C.2.1 dX0_joins_203 (by decide) ?_
          subst ev_207
          exact KP_207
    have hs := if_f c42 hs
    by_cases c43 : x1 = 43
    · have hs := if_t c43 hs
      refine lv_lookup (off := 58) (tgt := 84) C.1 C.2.1 dX0_joins_26 (by decide) (by rw [c43]; rfl) (by decide) ?_
      refine lv_lload C.1 C.2.1 dX0_joins_84 (lv_at hl 3 rfl) ?_
      refine lv_lload_n C.1 C.2.1 dX0_joins_86 rfl (lv_at hl 2 rfl) ?_
      refine lv_ladd C.1 C.2.1 dX0_joins_87 ?_
      refine lv_topl (fun x6_88 ex6_88 => ?_)
      have hs := gv_at ex6_88 hs
      refine lv_lstore (lv' := [(6, .long x6_88), (0, .ref (q 5)), (1, .int x1), (2, .long r_1), (4, .long r_6)]) C.1 C.2.1 dX0_joins_88 hl (by decide) rfl (fun ls hl => ?_)
      refine lv_goto (tgt := 178) C.1 C.2.1 dX0_joins_90 (by decide) ?_
      refine lv_aload_n C.1 C.2.1 dX0_joins_178 rfl (lv_at hl 1 rfl) ?_
      refine lv_lload C.1 C.2.1 dX0_joins_179 (lv_at hl 0 rfl) ?_
      obtain ⟨⟨I, B⟩, hc, hs⟩ := bd_e hs
      refine C_call C hI (kX0_push l D cy P0 q z tl xx _ _ _ _ _ _ _ hc) (rv_X0 hI) ml_X0_90 im_X0_push se_X0_push ini_X0 co_X0_push hyX0_push rfl ⟨by decide, by decide⟩ hl.1 rfl (Nat.le_of_ble_eq_true rfl) dX0_joins_181 (fun H locs hI => ?_)
      refine lv_lload C.1 C.2.1 dX0_joins_184 (lv_at hl 0 rfl) ?_
      refine lv_ldc2 C.1 C.2.1 C.2.2.2.1 (C.2.2.2.2.1 _ kl_X0_107) dX0_joins_186 ?_
      refine W.lcmp C.1 C.2.1 dX0_joins_189 ?_
      obtain ⟨v_207, ev_207, hs⟩ := gv_ex hs
      have KP_207 : W p l e (rmL 1) s m args below meth c H locs 0 0 (MQ below (cQ D cy P0 q tl (some (.int r)) xx I2 J A B2) args s 0 0 P0) (F0 m 207 ls [.int v_207]) := by
        obtain ⟨rfl, rfl, rfl⟩ := so3 hs
        exact C_zret C hI (isB_ev ev_207 (by (repeat' split) <;> decide)) dX0_joins_207
      refine lv_if_gt (tgt := 206) C.1 C.2.1 dX0_joins_190 (by decide) (fun cn => ?_) (fun cn => ?_)
      · have ev_207 := if_t' cn ev_207
        refine lv_iconst (v := 0) C.1 C.2.1 dX0_joins_206 (by decide) ?_
        subst ev_207
        exact KP_207
      · have ev_207 := if_f' cn ev_207
        refine lv_lload C.1 C.2.1 dX0_joins_193 (lv_at hl 0 rfl) ?_
        refine lv_ldc2 C.1 C.2.1 C.2.2.2.1 (C.2.2.2.2.1 _ kl_X0_109) dX0_joins_195 ?_
        refine W.lcmp C.1 C.2.1 dX0_joins_198 ?_
        refine lv_if_lt (tgt := 206) C.1 C.2.1 dX0_joins_199 (by decide) (fun cn => ?_) (fun cn => ?_)
        · have ev_207 := if_t' cn ev_207
          refine lv_iconst (v := 0) C.1 C.2.1 dX0_joins_206 (by decide) ?_
          subst ev_207
          exact KP_207
        · have ev_207 := if_f' cn ev_207
          refine lv_iconst (v := 1) C.1 C.2.1 dX0_joins_202 (by decide) ?_
          refine lv_goto (tgt := 207) C.1 C.2.1 dX0_joins_203 (by decide) ?_
          subst ev_207
          exact KP_207
    have hs := if_f c43 hs
    by_cases c45 : x1 = 45
    · have hs := if_t c45 hs
      refine lv_lookup (off := 67) (tgt := 93) C.1 C.2.1 dX0_joins_26 (by decide) (by rw [c45]; rfl) (by decide) ?_
      refine lv_lload C.1 C.2.1 dX0_joins_93 (lv_at hl 3 rfl) ?_
      refine lv_lload_n C.1 C.2.1 dX0_joins_95 rfl (lv_at hl 2 rfl) ?_
      refine lv_lsub C.1 C.2.1 dX0_joins_96 ?_
      refine lv_topl (fun x6_97 ex6_97 => ?_)
      have hs := gv_at ex6_97 hs
      refine lv_lstore (lv' := [(6, .long x6_97), (0, .ref (q 5)), (1, .int x1), (2, .long r_1), (4, .long r_6)]) C.1 C.2.1 dX0_joins_97 hl (by decide) rfl (fun ls hl => ?_)
      refine lv_goto (tgt := 178) C.1 C.2.1 dX0_joins_99 (by decide) ?_
      refine lv_aload_n C.1 C.2.1 dX0_joins_178 rfl (lv_at hl 1 rfl) ?_
      refine lv_lload C.1 C.2.1 dX0_joins_179 (lv_at hl 0 rfl) ?_
      obtain ⟨⟨I, B⟩, hc, hs⟩ := bd_e hs
      refine C_call C hI (kX0_push l D cy P0 q z tl xx _ _ _ _ _ _ _ hc) (rv_X0 hI) ml_X0_90 im_X0_push se_X0_push ini_X0 co_X0_push hyX0_push rfl ⟨by decide, by decide⟩ hl.1 rfl (Nat.le_of_ble_eq_true rfl) dX0_joins_181 (fun H locs hI => ?_)
      refine lv_lload C.1 C.2.1 dX0_joins_184 (lv_at hl 0 rfl) ?_
      refine lv_ldc2 C.1 C.2.1 C.2.2.2.1 (C.2.2.2.2.1 _ kl_X0_107) dX0_joins_186 ?_
      refine W.lcmp C.1 C.2.1 dX0_joins_189 ?_
      obtain ⟨v_207, ev_207, hs⟩ := gv_ex hs
      have KP_207 : W p l e (rmL 1) s m args below meth c H locs 0 0 (MQ below (cQ D cy P0 q tl (some (.int r)) xx I2 J A B2) args s 0 0 P0) (F0 m 207 ls [.int v_207]) := by
        obtain ⟨rfl, rfl, rfl⟩ := so3 hs
        exact C_zret C hI (isB_ev ev_207 (by (repeat' split) <;> decide)) dX0_joins_207
      refine lv_if_gt (tgt := 206) C.1 C.2.1 dX0_joins_190 (by decide) (fun cn => ?_) (fun cn => ?_)
      · have ev_207 := if_t' cn ev_207
        refine lv_iconst (v := 0) C.1 C.2.1 dX0_joins_206 (by decide) ?_
        subst ev_207
        exact KP_207
      · have ev_207 := if_f' cn ev_207
        refine lv_lload C.1 C.2.1 dX0_joins_193 (lv_at hl 0 rfl) ?_
        refine lv_ldc2 C.1 C.2.1 C.2.2.2.1 (C.2.2.2.2.1 _ kl_X0_109) dX0_joins_195 ?_
        refine W.lcmp C.1 C.2.1 dX0_joins_198 ?_
        refine lv_if_lt (tgt := 206) C.1 C.2.1 dX0_joins_199 (by decide) (fun cn => ?_) (fun cn => ?_)
        · have ev_207 := if_t' cn ev_207
          refine lv_iconst (v := 0) C.1 C.2.1 dX0_joins_206 (by decide) ?_
          subst ev_207
          exact KP_207
        · have ev_207 := if_f' cn ev_207
          refine lv_iconst (v := 1) C.1 C.2.1 dX0_joins_202 (by decide) ?_
          refine lv_goto (tgt := 207) C.1 C.2.1 dX0_joins_203 (by decide) ?_
          subst ev_207
          exact KP_207
    have hs := if_f c45 hs
    by_cases c47 : x1 = 47
    · have hs := if_t c47 hs
      refine lv_lookup (off := 85) (tgt := 111) C.1 C.2.1 dX0_joins_26 (by decide) (by rw [c47]; rfl) (by decide) ?_
      refine lv_lload_n C.1 C.2.1 dX0_joins_111 rfl (lv_at hl 2 rfl) ?_
      refine lv_lconst (v := 0) C.1 C.2.1 dX0_joins_112 (by decide) ?_
      refine W.lcmp C.1 C.2.1 dX0_joins_113 ?_
      obtain ⟨k_125, ek_125, hs⟩ := gv_ex hs
      have KJ_125 : ∀ (y0_j125 : Int64) (I : Nat → Int32) (B : Nat → Nat → Int64) (H : Heap) (locs : List Loc) (ls : Array Slot), k_125 y0_j125 I B = some (r, I2, B2) → CI D cy s P0 s.heap H locs q z tl xx I J A B → lv_has ls 8 [(0, .ref (q 5))] → W p l e (rmL 1) s m args below meth c H locs 0 0 (MQ below (cQ D cy P0 q tl (some (.int r)) xx I2 J A B2) args s 0 0 P0) (F0 m 125 ls [.long y0_j125]) := by
        intro y0_j125 I B H locs ls hs hI hl
        rw [ek_125] at hs
        refine lv_lstore (lv' := [(6, .long y0_j125), (0, .ref (q 5))]) C.1 C.2.1 dX0_joins_125 hl (by decide) rfl (fun ls hl => ?_)
        refine lv_goto (tgt := 178) C.1 C.2.1 dX0_joins_127 (by decide) ?_
        refine lv_aload_n C.1 C.2.1 dX0_joins_178 rfl (lv_at hl 1 rfl) ?_
        refine lv_lload C.1 C.2.1 dX0_joins_179 (lv_at hl 0 rfl) ?_
        obtain ⟨⟨I, B⟩, hc, hs⟩ := bd_e hs
        refine C_call C hI (kX0_push l D cy P0 q z tl xx _ _ _ _ _ _ _ hc) (rv_X0 hI) ml_X0_90 im_X0_push se_X0_push ini_X0 co_X0_push hyX0_push rfl ⟨by decide, by decide⟩ hl.1 rfl (Nat.le_of_ble_eq_true rfl) dX0_joins_181 (fun H locs hI => ?_)
        refine lv_lload C.1 C.2.1 dX0_joins_184 (lv_at hl 0 rfl) ?_
        refine lv_ldc2 C.1 C.2.1 C.2.2.2.1 (C.2.2.2.2.1 _ kl_X0_107) dX0_joins_186 ?_
        refine W.lcmp C.1 C.2.1 dX0_joins_189 ?_
        obtain ⟨v_207, ev_207, hs⟩ := gv_ex hs
        have KP_207 : W p l e (rmL 1) s m args below meth c H locs 0 0 (MQ below (cQ D cy P0 q tl (some (.int r)) xx I2 J A B2) args s 0 0 P0) (F0 m 207 ls [.int v_207]) := by
          obtain ⟨rfl, rfl, rfl⟩ := so3 hs
          exact C_zret C hI (isB_ev ev_207 (by (repeat' split) <;> decide)) dX0_joins_207
        refine lv_if_gt (tgt := 206) C.1 C.2.1 dX0_joins_190 (by decide) (fun cn => ?_) (fun cn => ?_)
        · have ev_207 := if_t' cn ev_207
          refine lv_iconst (v := 0) C.1 C.2.1 dX0_joins_206 (by decide) ?_
          subst ev_207
          exact KP_207
        · have ev_207 := if_f' cn ev_207
          refine lv_lload C.1 C.2.1 dX0_joins_193 (lv_at hl 0 rfl) ?_
          refine lv_ldc2 C.1 C.2.1 C.2.2.2.1 (C.2.2.2.2.1 _ kl_X0_109) dX0_joins_195 ?_
          refine W.lcmp C.1 C.2.1 dX0_joins_198 ?_
          refine lv_if_lt (tgt := 206) C.1 C.2.1 dX0_joins_199 (by decide) (fun cn => ?_) (fun cn => ?_)
          · have ev_207 := if_t' cn ev_207
            refine lv_iconst (v := 0) C.1 C.2.1 dX0_joins_206 (by decide) ?_
            subst ev_207
            exact KP_207
          · have ev_207 := if_f' cn ev_207
            refine lv_iconst (v := 1) C.1 C.2.1 dX0_joins_202 (by decide) ?_
            refine lv_goto (tgt := 207) C.1 C.2.1 dX0_joins_203 (by decide) ?_
            subst ev_207
            exact KP_207
      refine lv_if_ne (tgt := 121) C.1 C.2.1 dX0_joins_114 (by decide) (fun cn => ?_) (fun cn => ?_)
      · have hs := if_f cn hs
        refine lv_lload C.1 C.2.1 dX0_joins_121 (lv_at hl 3 rfl) ?_
        refine lv_lload_n C.1 C.2.1 dX0_joins_123 rfl (lv_at hl 2 rfl) ?_
        obtain ⟨hz, hs⟩ := ck_e hs
        refine lv_ldiv C.1 C.2.1 dX0_joins_124 (nzL_e hz) ?_
        exact KJ_125 _ _ _ _ _ _ hs hI (lv_sub hl [0] rfl)
      · have hs := if_t cn hs
        refine lv_lconst (v := 0) C.1 C.2.1 dX0_joins_117 (by decide) ?_
        refine lv_goto (tgt := 125) C.1 C.2.1 dX0_joins_118 (by decide) ?_
        exact KJ_125 _ _ _ _ _ _ hs hI (lv_sub hl [0] rfl)
    have hs := if_f c47 hs
    by_cases c60 : x1 = 60
    · have hs := if_t c60 hs
      refine lv_lookup (off := 104) (tgt := 130) C.1 C.2.1 dX0_joins_26 (by decide) (by rw [c60]; rfl) (by decide) ?_
      refine lv_lload C.1 C.2.1 dX0_joins_130 (lv_at hl 3 rfl) ?_
      refine lv_lload_n C.1 C.2.1 dX0_joins_132 rfl (lv_at hl 2 rfl) ?_
      refine W.lcmp C.1 C.2.1 dX0_joins_133 ?_
      obtain ⟨v_142, ev_142, hs⟩ := gv_ex hs
      have KP_142 : W p l e (rmL 1) s m args below meth c H locs 0 0 (MQ below (cQ D cy P0 q tl (some (.int r)) xx I2 J A B2) args s 0 0 P0) (F0 m 142 ls [.long v_142]) := by
        refine lv_lstore (lv' := [(6, .long v_142), (0, .ref (q 5)), (1, .int x1), (2, .long r_1), (4, .long r_6)]) C.1 C.2.1 dX0_joins_142 hl (by decide) rfl (fun ls hl => ?_)
        refine lv_goto (tgt := 178) C.1 C.2.1 dX0_joins_144 (by decide) ?_
        refine lv_aload_n C.1 C.2.1 dX0_joins_178 rfl (lv_at hl 1 rfl) ?_
        refine lv_lload C.1 C.2.1 dX0_joins_179 (lv_at hl 0 rfl) ?_
        obtain ⟨⟨I, B⟩, hc, hs⟩ := bd_e hs
        refine C_call C hI (kX0_push l D cy P0 q z tl xx _ _ _ _ _ _ _ hc) (rv_X0 hI) ml_X0_90 im_X0_push se_X0_push ini_X0 co_X0_push hyX0_push rfl ⟨by decide, by decide⟩ hl.1 rfl (Nat.le_of_ble_eq_true rfl) dX0_joins_181 (fun H locs hI => ?_)
        refine lv_lload C.1 C.2.1 dX0_joins_184 (lv_at hl 0 rfl) ?_
        refine lv_ldc2 C.1 C.2.1 C.2.2.2.1 (C.2.2.2.2.1 _ kl_X0_107) dX0_joins_186 ?_
        refine W.lcmp C.1 C.2.1 dX0_joins_189 ?_
        obtain ⟨v_207, ev_207, hs⟩ := gv_ex hs
        have KP_207 : W p l e (rmL 1) s m args below meth c H locs 0 0 (MQ below (cQ D cy P0 q tl (some (.int r)) xx I2 J A B2) args s 0 0 P0) (F0 m 207 ls [.int v_207]) := by
          obtain ⟨rfl, rfl, rfl⟩ := so3 hs
          exact C_zret C hI (isB_ev ev_207 (by (repeat' split) <;> decide)) dX0_joins_207
        refine lv_if_gt (tgt := 206) C.1 C.2.1 dX0_joins_190 (by decide) (fun cn => ?_) (fun cn => ?_)
        · have ev_207 := if_t' cn ev_207
          refine lv_iconst (v := 0) C.1 C.2.1 dX0_joins_206 (by decide) ?_
          subst ev_207
          exact KP_207
        · have ev_207 := if_f' cn ev_207
          refine lv_lload C.1 C.2.1 dX0_joins_193 (lv_at hl 0 rfl) ?_
          refine lv_ldc2 C.1 C.2.1 C.2.2.2.1 (C.2.2.2.2.1 _ kl_X0_109) dX0_joins_195 ?_
          refine W.lcmp C.1 C.2.1 dX0_joins_198 ?_
          refine lv_if_lt (tgt := 206) C.1 C.2.1 dX0_joins_199 (by decide) (fun cn => ?_) (fun cn => ?_)
          · have ev_207 := if_t' cn ev_207
            refine lv_iconst (v := 0) C.1 C.2.1 dX0_joins_206 (by decide) ?_
            subst ev_207
            exact KP_207
          · have ev_207 := if_f' cn ev_207
            refine lv_iconst (v := 1) C.1 C.2.1 dX0_joins_202 (by decide) ?_
            refine lv_goto (tgt := 207) C.1 C.2.1 dX0_joins_203 (by decide) ?_
            subst ev_207
            exact KP_207
      refine lv_if_ge (tgt := 141) C.1 C.2.1 dX0_joins_134 (by decide) (fun cn => ?_) (fun cn => ?_)
      · have ev_142 := if_t' cn ev_142
        refine lv_lconst (v := 0) C.1 C.2.1 dX0_joins_141 (by decide) ?_
        subst ev_142
        exact KP_142
      · have ev_142 := if_f' cn ev_142
        refine lv_lconst (v := 1) C.1 C.2.1 dX0_joins_137 (by decide) ?_
        refine lv_goto (tgt := 142) C.1 C.2.1 dX0_joins_138 (by decide) ?_
        subst ev_142
        exact KP_142
    have hs := if_f c60 hs
    by_cases c62 : x1 = 62
    · have hs := if_t c62 hs
      refine lv_lookup (off := 121) (tgt := 147) C.1 C.2.1 dX0_joins_26 (by decide) (by rw [c62]; rfl) (by decide) ?_
      refine lv_lload C.1 C.2.1 dX0_joins_147 (lv_at hl 3 rfl) ?_
      refine lv_lload_n C.1 C.2.1 dX0_joins_149 rfl (lv_at hl 2 rfl) ?_
      refine W.lcmp C.1 C.2.1 dX0_joins_150 ?_
      obtain ⟨v_159, ev_159, hs⟩ := gv_ex hs
      have KP_159 : W p l e (rmL 1) s m args below meth c H locs 0 0 (MQ below (cQ D cy P0 q tl (some (.int r)) xx I2 J A B2) args s 0 0 P0) (F0 m 159 ls [.long v_159]) := by
        refine lv_lstore (lv' := [(6, .long v_159), (0, .ref (q 5)), (1, .int x1), (2, .long r_1), (4, .long r_6)]) C.1 C.2.1 dX0_joins_159 hl (by decide) rfl (fun ls hl => ?_)
        refine lv_goto (tgt := 178) C.1 C.2.1 dX0_joins_161 (by decide) ?_
        refine lv_aload_n C.1 C.2.1 dX0_joins_178 rfl (lv_at hl 1 rfl) ?_
        refine lv_lload C.1 C.2.1 dX0_joins_179 (lv_at hl 0 rfl) ?_
        obtain ⟨⟨I, B⟩, hc, hs⟩ := bd_e hs
        refine C_call C hI (kX0_push l D cy P0 q z tl xx _ _ _ _ _ _ _ hc) (rv_X0 hI) ml_X0_90 im_X0_push se_X0_push ini_X0 co_X0_push hyX0_push rfl ⟨by decide, by decide⟩ hl.1 rfl (Nat.le_of_ble_eq_true rfl) dX0_joins_181 (fun H locs hI => ?_)
        refine lv_lload C.1 C.2.1 dX0_joins_184 (lv_at hl 0 rfl) ?_
        refine lv_ldc2 C.1 C.2.1 C.2.2.2.1 (C.2.2.2.2.1 _ kl_X0_107) dX0_joins_186 ?_
        refine W.lcmp C.1 C.2.1 dX0_joins_189 ?_
        obtain ⟨v_207, ev_207, hs⟩ := gv_ex hs
        have KP_207 : W p l e (rmL 1) s m args below meth c H locs 0 0 (MQ below (cQ D cy P0 q tl (some (.int r)) xx I2 J A B2) args s 0 0 P0) (F0 m 207 ls [.int v_207]) := by
          obtain ⟨rfl, rfl, rfl⟩ := so3 hs
          exact C_zret C hI (isB_ev ev_207 (by (repeat' split) <;> decide)) dX0_joins_207
        refine lv_if_gt (tgt := 206) C.1 C.2.1 dX0_joins_190 (by decide) (fun cn => ?_) (fun cn => ?_)
        · have ev_207 := if_t' cn ev_207
          refine lv_iconst (v := 0) C.1 C.2.1 dX0_joins_206 (by decide) ?_
          subst ev_207
          exact KP_207
        · have ev_207 := if_f' cn ev_207
          refine lv_lload C.1 C.2.1 dX0_joins_193 (lv_at hl 0 rfl) ?_
          refine lv_ldc2 C.1 C.2.1 C.2.2.2.1 (C.2.2.2.2.1 _ kl_X0_109) dX0_joins_195 ?_
          refine W.lcmp C.1 C.2.1 dX0_joins_198 ?_
          refine lv_if_lt (tgt := 206) C.1 C.2.1 dX0_joins_199 (by decide) (fun cn => ?_) (fun cn => ?_)
          · have ev_207 := if_t' cn ev_207
            refine lv_iconst (v := 0) C.1 C.2.1 dX0_joins_206 (by decide) ?_
            subst ev_207
            exact KP_207
          · have ev_207 := if_f' cn ev_207
            refine lv_iconst (v := 1) C.1 C.2.1 dX0_joins_202 (by decide) ?_
            refine lv_goto (tgt := 207) C.1 C.2.1 dX0_joins_203 (by decide) ?_
            subst ev_207
            exact KP_207
      refine lv_if_le (tgt := 158) C.1 C.2.1 dX0_joins_151 (by decide) (fun cn => ?_) (fun cn => ?_)
      · have ev_159 := if_t' cn ev_159
        refine lv_lconst (v := 0) C.1 C.2.1 dX0_joins_158 (by decide) ?_
        subst ev_159
        exact KP_159
      · have ev_159 := if_f' cn ev_159
        refine lv_lconst (v := 1) C.1 C.2.1 dX0_joins_154 (by decide) ?_
        refine lv_goto (tgt := 159) C.1 C.2.1 dX0_joins_155 (by decide) ?_
        subst ev_159
        exact KP_159
    have hs := if_f c62 hs
    refine lv_lookup (off := 138) (tgt := 164) C.1 C.2.1 dX0_joins_26 (by decide) (by rw [lv_osw c42 (by decide)]; rw [lv_osw c43 (by decide)]; rw [lv_osw c45 (by decide)]; rw [lv_osw c47 (by decide)]; rw [lv_osw c60 (by decide)]; rw [lv_osw c62 (by decide)]; rfl) (by decide) ?_
    refine lv_lload C.1 C.2.1 dX0_joins_164 (lv_at hl 3 rfl) ?_
    refine lv_lload_n C.1 C.2.1 dX0_joins_166 rfl (lv_at hl 2 rfl) ?_
    refine W.lcmp C.1 C.2.1 dX0_joins_167 ?_
    obtain ⟨v_176, ev_176, hs⟩ := gv_ex hs
    have KP_176 : W p l e (rmL 1) s m args below meth c H locs 0 0 (MQ below (cQ D cy P0 q tl (some (.int r)) xx I2 J A B2) args s 0 0 P0) (F0 m 176 ls [.long v_176]) := by
      refine lv_lstore (lv' := [(6, .long v_176), (0, .ref (q 5)), (1, .int x1), (2, .long r_1), (4, .long r_6)]) C.1 C.2.1 dX0_joins_176 hl (by decide) rfl (fun ls hl => ?_)
      refine lv_aload_n C.1 C.2.1 dX0_joins_178 rfl (lv_at hl 1 rfl) ?_
      refine lv_lload C.1 C.2.1 dX0_joins_179 (lv_at hl 0 rfl) ?_
      obtain ⟨⟨I, B⟩, hc, hs⟩ := bd_e hs
      refine C_call C hI (kX0_push l D cy P0 q z tl xx _ _ _ _ _ _ _ hc) (rv_X0 hI) ml_X0_90 im_X0_push se_X0_push ini_X0 co_X0_push hyX0_push rfl ⟨by decide, by decide⟩ hl.1 rfl (Nat.le_of_ble_eq_true rfl) dX0_joins_181 (fun H locs hI => ?_)
      refine lv_lload C.1 C.2.1 dX0_joins_184 (lv_at hl 0 rfl) ?_
      refine lv_ldc2 C.1 C.2.1 C.2.2.2.1 (C.2.2.2.2.1 _ kl_X0_107) dX0_joins_186 ?_
      refine W.lcmp C.1 C.2.1 dX0_joins_189 ?_
      obtain ⟨v_207, ev_207, hs⟩ := gv_ex hs
      have KP_207 : W p l e (rmL 1) s m args below meth c H locs 0 0 (MQ below (cQ D cy P0 q tl (some (.int r)) xx I2 J A B2) args s 0 0 P0) (F0 m 207 ls [.int v_207]) := by
        obtain ⟨rfl, rfl, rfl⟩ := so3 hs
        exact C_zret C hI (isB_ev ev_207 (by (repeat' split) <;> decide)) dX0_joins_207
      refine lv_if_gt (tgt := 206) C.1 C.2.1 dX0_joins_190 (by decide) (fun cn => ?_) (fun cn => ?_)
      · have ev_207 := if_t' cn ev_207
        refine lv_iconst (v := 0) C.1 C.2.1 dX0_joins_206 (by decide) ?_
        subst ev_207
        exact KP_207
      · have ev_207 := if_f' cn ev_207
        refine lv_lload C.1 C.2.1 dX0_joins_193 (lv_at hl 0 rfl) ?_
        refine lv_ldc2 C.1 C.2.1 C.2.2.2.1 (C.2.2.2.2.1 _ kl_X0_109) dX0_joins_195 ?_
        refine W.lcmp C.1 C.2.1 dX0_joins_198 ?_
        refine lv_if_lt (tgt := 206) C.1 C.2.1 dX0_joins_199 (by decide) (fun cn => ?_) (fun cn => ?_)
        · have ev_207 := if_t' cn ev_207
          refine lv_iconst (v := 0) C.1 C.2.1 dX0_joins_206 (by decide) ?_
          subst ev_207
          exact KP_207
        · have ev_207 := if_f' cn ev_207
          refine lv_iconst (v := 1) C.1 C.2.1 dX0_joins_202 (by decide) ?_
          refine lv_goto (tgt := 207) C.1 C.2.1 dX0_joins_203 (by decide) ?_
          subst ev_207
          exact KP_207
    refine lv_if_ne (tgt := 175) C.1 C.2.1 dX0_joins_168 (by decide) (fun cn => ?_) (fun cn => ?_)
    · have ev_176 := if_f' cn ev_176
      refine lv_lconst (v := 0) C.1 C.2.1 dX0_joins_175 (by decide) ?_
      subst ev_176
      exact KP_176
    · have ev_176 := if_t' cn ev_176
      refine lv_lconst (v := 1) C.1 C.2.1 dX0_joins_171 (by decide) ?_
      refine lv_goto (tgt := 176) C.1 C.2.1 dX0_joins_172 (by decide) ?_
      subst ev_176
      exact KP_176
  refine lv_icmp_ne (tgt := 25) C.1 C.2.1 dX0_joins_14 (by decide) (fun cn => ?_) (fun cn => ?_)
  · have hs := if_f cn hs
    exact KJ_25 _ _ _ _ _ hs hI (lv_sub hl [2, 3, 1, 0] rfl)
  · have hs := if_t cn hs
    refine lv_lload_n C.1 C.2.1 dX0_joins_17 rfl (lv_at hl 1 rfl) ?_
    refine lv_lconst (v := 0) C.1 C.2.1 dX0_joins_18 (by decide) ?_
    refine W.lcmp C.1 C.2.1 dX0_joins_19 ?_
    refine lv_if_ne (tgt := 25) C.1 C.2.1 dX0_joins_20 (by decide) (fun cn => ?_) (fun cn => ?_)
    · have hs := if_f cn hs
      exact KJ_25 _ _ _ _ _ hs hI (lv_sub hl [2, 3, 1, 0] rfl)
    · have hs := if_t cn hs
      refine lv_iconst (v := 0) C.1 C.2.1 dX0_joins_23 (by decide) ?_
      obtain ⟨rfl, rfl, rfl⟩ := so3 hs
      exact C_zret C hI (by decide) dX0_joins_24

def lX1_ready_6 : Nat → Int32 → Int32 → Int32 → (Nat → Int32) → (Nat → Int64) → (Nat → Nat → Int32) → (Nat → Nat → Int64) → Option ((Nat → Nat → Int32))
  | 0, _, _, _, _, _, _, _ => none
  | n + 1, x1, x2, x3, I, J, A, B =>
    if x3 < 0 then
    (some A)
    else
    ck (inB x3 6) <|
    gv (x1 + (A 13 (ix x3))) fun x1_21 =>
    gv (x2 + x1_21) fun x2_25 =>
    ck (inB x3 6) <|
    gv (va_up A 55 (upd (A 55) (ix x3) x1_21)) fun A =>
    ck (inB x3 6) <|
    gv (va_up A 56 (upd (A 56) (ix x3) x2_25)) fun A =>
    gv (x3 + (-1)) fun x3_40 =>
    lX1_ready_6 n x1_21 x2_25 x3_40 I J A B
def lX1_ready_48 : Nat → Int32 → (Nat → Int32) → (Nat → Int64) → (Nat → Nat → Int32) → (Nat → Nat → Int64) → Option ((Nat → Nat → Int32))
  | 0, _, _, _, _, _ => none
  | n + 1, x3, I, J, A, B =>
    if (48 : Int32) ≤ x3 then
    (some A)
    else
    (sX4_holdOf x3 I J A B).bind fun r_64 =>
    ck (inB x3 48) <|
    gv (va_up A 51 (upd (A 51) (ix x3) r_64)) fun A =>
    gv (x3 + 1) fun x3_68 =>
    lX1_ready_48 n x3_68 I J A B
def sX1_ready (I : Nat → Int32) (J : Nat → Int64) (A : Nat → Nat → Int32) (B : Nat → Nat → Int64) : Option ((Nat → Int32) × (Nat → Nat → Int32)) :=
(lX1_ready_6 FU (0 : Int32) (0 : Int32) (5 : Int32) I J A B).bind fun A =>
(lX1_ready_48 FU (0 : Int32) I J A B).bind fun A =>
(sX1_standLegAt (A 15 (ix (3 : Int32))) I J A B).bind fun I =>
some (I, A)
set_option maxRecDepth 100000 in
set_option maxHeartbeats 8000000 in
theorem kX1_ready (l : Launch) (D : va_G) (cy : Nat → ClassId) (P0 : Nat → Prop) (q z : Nat → Nat) (tl : va_W) (xx : (Nat → Option Nat) × (Nat → Option Nat) × Nat) (I : Nat → Int32) (J : Nat → Int64) (A : Nat → Nat → Int32) (B : Nat → Nat → Int64) (I2 : Nat → Int32) (A2 : Nat → Nat → Int32) (hs : sX1_ready I J A B = some (I2, A2)) : McC l yX1_ready cX1_ready 4 none 1 [.ref (q 2)] D cy P0 q z tl xx I J A B none xx I2 J A2 B := by
  refine C_start rfl (Nat.le_of_ble_eq_true rfl) ?_
  intro p e s m args below meth c H locs C hI ls hl
  have hl : lv_has ls 4 [(0, .ref (q 2))] := hl
  rw [sX1_ready] at hs
  refine lv_iconst (v := 0) C.1 C.2.1 dX1_ready_0 (by decide) ?_
  refine lv_istore_n (lv' := [(1, .int (0 : Int32)), (0, .ref (q 2))]) C.1 C.2.1 dX1_ready_1 rfl hl (by decide) rfl (fun ls hl => ?_)
  refine lv_iconst (v := 0) C.1 C.2.1 dX1_ready_2 (by decide) ?_
  refine lv_istore_n (lv' := [(2, .int (0 : Int32)), (1, .int (0 : Int32)), (0, .ref (q 2))]) C.1 C.2.1 dX1_ready_3 rfl hl (by decide) rfl (fun ls hl => ?_)
  refine lv_iconst (v := 5) C.1 C.2.1 dX1_ready_4 (by decide) ?_
  refine lv_istore_n (lv' := [(3, .int (5 : Int32)), (2, .int (0 : Int32)), (1, .int (0 : Int32)), (0, .ref (q 2))]) C.1 C.2.1 dX1_ready_5 rfl hl (by decide) rfl (fun ls hl => ?_)
  have KL_6 : ∀ (n : Nat) (x1 : Int32) (x2 : Int32) (x3 : Int32) (I : Nat → Int32) (J : Nat → Int64) (A : Nat → Nat → Int32) (B : Nat → Nat → Int64) (o : (Nat → Nat → Int32)) (Q : State → Prop) (H : Heap) (locs : List Loc) (ls : Array Slot), lX1_ready_6 n x1 x2 x3 I J A B = some o → CI D cy s P0 s.heap H locs q z tl xx I J A B → lv_has ls 4 [(0, .ref (q 2)), (1, .int x1), (2, .int x2), (3, .int x3)] → (∀ (A_0 : Nat → Nat → Int32) (H : Heap) (locs : List Loc) (ls : Array Slot), o = A_0 → CI D cy s P0 s.heap H locs q z tl xx I J A_0 B → lv_has ls 4 [(0, .ref (q 2))] → W p l e (rmL 1) s m args below meth c H locs 0 0 Q (F0 m 46 ls [])) → W p l e (rmL 1) s m args below meth c H locs 0 0 Q (F0 m 6 ls []) := by
    intro n; induction n with
    | zero => intro x1 x2 x3 I J A B o Q H locs ls hs; rw [lX1_ready_6] at hs; cases hs
    | succ n ih =>
      intro x1 x2 x3 I J A B o Q H locs ls hs hI hl kk0
      rw [lX1_ready_6] at hs
      refine lv_iload_n C.1 C.2.1 dX1_ready_6 rfl (lv_at hl 3 rfl) ?_
      refine lv_if_lt (tgt := 46) C.1 C.2.1 dX1_ready_7 (by decide) (fun cn => ?_) (fun cn => ?_)
      · have hs := if_t cn hs
        have eo := (Option.some.inj hs).symm
        exact kk0 _ _ _ _ eo hI (lv_sub hl [0] rfl)
      · have hs := if_f cn hs
        refine lv_iload_n C.1 C.2.1 dX1_ready_10 rfl (lv_at hl 1 rfl) ?_
        refine lv_aload_n C.1 C.2.1 dX1_ready_11 rfl (lv_at hl 0 rfl) ?_
        refine cg_X1_50 C hI dX1_ready_12 ?_
        refine cg_X1_13 C hI dX1_ready_15 ?_
        refine lv_iload_n C.1 C.2.1 dX1_ready_18 rfl (lv_at hl 3 rfl) ?_
        obtain ⟨hk, hs⟩ := ck_e hs
        refine ca_13 C hI hk dX1_ready_19 ?_
        refine lv_iadd C.1 C.2.1 dX1_ready_20 ?_
        refine lv_topi (fun x1_21 ex1_21 => ?_)
        have hs := gv_at ex1_21 hs
        refine lv_istore_n (lv' := [(1, .int x1_21), (0, .ref (q 2)), (2, .int x2), (3, .int x3)]) C.1 C.2.1 dX1_ready_21 rfl hl (by decide) rfl (fun ls hl => ?_)
        refine lv_iload_n C.1 C.2.1 dX1_ready_22 rfl (lv_at hl 2 rfl) ?_
        refine lv_iload_n C.1 C.2.1 dX1_ready_23 rfl (lv_at hl 0 rfl) ?_
        refine lv_iadd C.1 C.2.1 dX1_ready_24 ?_
        refine lv_topi (fun x2_25 ex2_25 => ?_)
        have hs := gv_at ex2_25 hs
        refine lv_istore_n (lv' := [(2, .int x2_25), (1, .int x1_21), (0, .ref (q 2)), (3, .int x3)]) C.1 C.2.1 dX1_ready_25 rfl hl (by decide) rfl (fun ls hl => ?_)
        refine lv_aload_n C.1 C.2.1 dX1_ready_26 rfl (lv_at hl 2 rfl) ?_
        refine cg_X1_55 C hI dX1_ready_27 ?_
        refine lv_iload_n C.1 C.2.1 dX1_ready_30 rfl (lv_at hl 3 rfl) ?_
        refine lv_iload_n C.1 C.2.1 dX1_ready_31 rfl (lv_at hl 1 rfl) ?_
        obtain ⟨hk, hs⟩ := ck_e hs
        refine cs_55 C hI hk dX1_ready_32 (fun H locs hI => ?_)
        have hs := gv_be hs
        refine lv_aload_n C.1 C.2.1 dX1_ready_33 rfl (lv_at hl 2 rfl) ?_
        refine cg_X1_56 C hI dX1_ready_34 ?_
        refine lv_iload_n C.1 C.2.1 dX1_ready_37 rfl (lv_at hl 3 rfl) ?_
        refine lv_iload_n C.1 C.2.1 dX1_ready_38 rfl (lv_at hl 0 rfl) ?_
        obtain ⟨hk, hs⟩ := ck_e hs
        refine cs_56 C hI hk dX1_ready_39 (fun H locs hI => ?_)
        have hs := gv_be hs
        obtain ⟨x3_40, ex3_40⟩ : ∃ y : Int32, y = (x3 + (-1)) := ⟨_, rfl⟩
        have hs := gv_at ex3_40 hs
        refine lv_iinc (v := x3_40) (lv' := [(3, .int x3_40), (2, .int x2_25), (1, .int x1_21), (0, .ref (q 2))]) C.1 C.2.1 dX1_ready_40 hl (k := 3) rfl (by rw [ex3_40]; rfl) (by decide) rfl (fun ls hl => ?_)
        refine lv_goto (tgt := 6) C.1 C.2.1 dX1_ready_43 (by decide) ?_
        exact ih _ _ _ _ _ _ _ _ _ _ _ _ hs hI (lv_sub hl [3, 2, 1, 0] rfl) kk0
  obtain ⟨A_L, hL, hs⟩ := bd_e hs
  refine KL_6 FU _ _ _ _ _ _ _ _ _ _ _ _ hL hI (lv_sub hl [3, 2, 1, 0] rfl) (fun z0 H locs ls eo hI hl => ?_)
  subst eo
  refine lv_iconst (v := 0) C.1 C.2.1 dX1_ready_46 (by decide) ?_
  refine lv_istore_n (lv' := [(3, .int (0 : Int32)), (0, .ref (q 2))]) C.1 C.2.1 dX1_ready_47 rfl hl (by decide) rfl (fun ls hl => ?_)
  have KL_48 : ∀ (n : Nat) (x3 : Int32) (I : Nat → Int32) (J : Nat → Int64) (A : Nat → Nat → Int32) (B : Nat → Nat → Int64) (o : (Nat → Nat → Int32)) (Q : State → Prop) (H : Heap) (locs : List Loc) (ls : Array Slot), lX1_ready_48 n x3 I J A B = some o → CI D cy s P0 s.heap H locs q z tl xx I J A B → lv_has ls 4 [(0, .ref (q 2)), (3, .int x3)] → (∀ (A_0 : Nat → Nat → Int32) (H : Heap) (locs : List Loc) (ls : Array Slot), o = A_0 → CI D cy s P0 s.heap H locs q z tl xx I J A_0 B → lv_has ls 4 [(0, .ref (q 2))] → W p l e (rmL 1) s m args below meth c H locs 0 0 Q (F0 m 74 ls [])) → W p l e (rmL 1) s m args below meth c H locs 0 0 Q (F0 m 48 ls []) := by
    intro n; induction n with
    | zero => intro x3 I J A B o Q H locs ls hs; rw [lX1_ready_48] at hs; cases hs
    | succ n ih =>
      intro x3 I J A B o Q H locs ls hs hI hl kk0
      rw [lX1_ready_48] at hs
      refine lv_iload_n C.1 C.2.1 dX1_ready_48 rfl (lv_at hl 1 rfl) ?_
      refine lv_bipush (v := 48) C.1 C.2.1 dX1_ready_49 (by decide) ?_
      refine lv_icmp_ge (tgt := 74) C.1 C.2.1 dX1_ready_51 (by decide) (fun cn => ?_) (fun cn => ?_)
      · have hs := if_t cn hs
        have eo := (Option.some.inj hs).symm
        exact kk0 _ _ _ _ eo hI (lv_sub hl [0] rfl)
      · have hs := if_f cn hs
        refine lv_aload_n C.1 C.2.1 dX1_ready_54 rfl (lv_at hl 0 rfl) ?_
        refine cg_X1_51 C hI dX1_ready_55 ?_
        refine lv_iload_n C.1 C.2.1 dX1_ready_58 rfl (lv_at hl 1 rfl) ?_
        refine lv_aload_n C.1 C.2.1 dX1_ready_59 rfl (lv_at hl 0 rfl) ?_
        refine cg_X1_50 C hI dX1_ready_60 ?_
        refine lv_iload_n C.1 C.2.1 dX1_ready_63 rfl (lv_at hl 1 rfl) ?_
        obtain ⟨r_64, hc, hs⟩ := bd_e hs
        refine C_call C hI (kX4_holdOf l D cy P0 q z tl xx _ _ _ _ _ _ hc) (rv_X4 hI) ml_X1_73 im_X4_holdOf se_X4_holdOf ini_X4 co_X4_holdOf hyX4_holdOf rfl ⟨by decide, by decide⟩ hl.1 rfl (Nat.le_of_ble_eq_true rfl) dX1_ready_64 (fun H locs hI => ?_)
        obtain ⟨hk, hs⟩ := ck_e hs
        refine cs_51 C hI hk dX1_ready_67 (fun H locs hI => ?_)
        have hs := gv_be hs
        obtain ⟨x3_68, ex3_68⟩ : ∃ y : Int32, y = (x3 + 1) := ⟨_, rfl⟩
        have hs := gv_at ex3_68 hs
        refine lv_iinc (v := x3_68) (lv' := [(3, .int x3_68), (0, .ref (q 2))]) C.1 C.2.1 dX1_ready_68 hl (k := 1) rfl (by rw [ex3_68]; rfl) (by decide) rfl (fun ls hl => ?_)
        refine lv_goto (tgt := 48) C.1 C.2.1 dX1_ready_71 (by decide) ?_
        exact ih _ _ _ _ _ _ _ _ _ _ hs hI (lv_sub hl [1, 0] rfl) kk0
  obtain ⟨A_L, hL, hs⟩ := bd_e hs
  refine KL_48 FU _ _ _ _ _ _ _ _ _ _ hL hI (lv_sub hl [1, 0] rfl) (fun z0 H locs ls eo hI hl => ?_)
  subst eo
  refine lv_aload_n C.1 C.2.1 dX1_ready_74 rfl (lv_at hl 0 rfl) ?_
  refine lv_aload_n C.1 C.2.1 dX1_ready_75 rfl (lv_at hl 0 rfl) ?_
  refine cg_X1_50 C hI dX1_ready_76 ?_
  refine cg_X1_15 C hI dX1_ready_79 ?_
  refine lv_iconst (v := 3) C.1 C.2.1 dX1_ready_82 (by decide) ?_
  refine ca_15 C hI (by decide) dX1_ready_83 ?_
  obtain ⟨I, hc, hs⟩ := bd_e hs
  refine C_call C hI (kX1_standLegAt l D cy P0 q z tl xx _ _ _ _ _ _ hc) (rv_X1 hI) ml_X1_80 im_X1_standLegAt se_X1_standLegAt ini_X1 co_X1_standLegAt hyX1_standLegAt rfl ⟨by decide, by decide⟩ hl.1 rfl (Nat.le_of_ble_eq_true rfl) dX1_ready_84 (fun H locs hI => ?_)
  obtain ⟨rfl, rfl⟩ := so2 hs
  exact C_vret C hI dX1_ready_87

def sX1_blow (x1 : Int32) (x2 : Int32) (I : Nat → Int32) (J : Nat → Int64) (A : Nat → Nat → Int32) (B : Nat → Nat → Int64) : Option ((Nat → Int64)) :=
(sX5_cell 0 x1 (0 : Int32) I J A B).bind fun r_9 =>
gv (r_9 &&& (7 : Int32)) fun x3_15 =>
gv (if x2 = (1 : Int32) then ((100 : Int32) - (A 15 (ix (4 : Int32)))) else (100 : Int32)) fun v_38 =>
(sX5_cell 0 x1 (1 : Int32) I J A B).bind fun r_49 =>
gv ((r_49.toInt64) * (v_38.toInt64)) fun x5_57 =>
ck (inB x3_15 8) <|
gv (vp_updL J 58 (x5_57 * (((sv_3 (ix x3_15))).toInt64))) fun J =>
ck (inB x3_15 8) <|
gv (vp_updL J 59 (x5_57 * (((sv_4 (ix x3_15))).toInt64))) fun J =>
some J
set_option maxRecDepth 100000 in
set_option maxHeartbeats 8000000 in
theorem kX1_blow (l : Launch) (D : va_G) (cy : Nat → ClassId) (P0 : Nat → Prop) (q z : Nat → Nat) (tl : va_W) (xx : (Nat → Option Nat) × (Nat → Option Nat) × Nat) (x1 : Int32) (x2 : Int32) (I : Nat → Int32) (J : Nat → Int64) (A : Nat → Nat → Int32) (B : Nat → Nat → Int64) (J2 : Nat → Int64) (hs : sX1_blow x1 x2 I J A B = some J2) : McC l yX1_blow cX1_blow 7 none 1 [.ref (q 2), .int x1, .int x2] D cy P0 q z tl xx I J A B none xx I J2 A B := by
  refine C_start rfl (Nat.le_of_ble_eq_true rfl) ?_
  intro p e s m args below meth c H locs C hI ls hl
  have hl : lv_has ls 7 [(0, .ref (q 2)), (1, .int x1), (2, .int x2)] := hl
  rw [sX1_blow] at hs
  refine lv_aload_n C.1 C.2.1 dX1_blow_0 rfl (lv_at hl 0 rfl) ?_
  refine cg_X1_50 C hI dX1_blow_1 ?_
  refine cg_X1_17 C hI dX1_blow_4 ?_
  refine lv_iload_n C.1 C.2.1 dX1_blow_7 rfl (lv_at hl 1 rfl) ?_
  refine lv_iconst (v := 0) C.1 C.2.1 dX1_blow_8 (by decide) ?_
  obtain ⟨r_9, hc, hs⟩ := bd_e hs
  refine C_call C hI (kX5_cell l D cy P0 q z tl xx 0 (by decide) _ _ _ _ _ _ _ hc) (rv_X5 hI 0 (by decide)) ml_X1_91 im_X5_cell se_X5_cell ini_X5 co_X5_cell hyX5_cell rfl ⟨by decide, by decide⟩ hl.1 rfl (Nat.le_of_ble_eq_true rfl) dX1_blow_9 (fun H locs hI => ?_)
  refine lv_bipush (v := 7) C.1 C.2.1 dX1_blow_12 (by decide) ?_
  refine lv_iand C.1 C.2.1 dX1_blow_14 ?_
  refine lv_topi (fun x3_15 ex3_15 => ?_)
  have hs := gv_at ex3_15 hs
  refine lv_istore_n (lv' := [(3, .int x3_15), (0, .ref (q 2)), (1, .int x1), (2, .int x2)]) C.1 C.2.1 dX1_blow_15 rfl hl (by decide) rfl (fun ls hl => ?_)
  refine lv_iload_n C.1 C.2.1 dX1_blow_16 rfl (lv_at hl 3 rfl) ?_
  refine lv_iconst (v := 1) C.1 C.2.1 dX1_blow_17 (by decide) ?_
  obtain ⟨v_38, ev_38, hs⟩ := gv_ex hs
  have KP_38 : W p l e (rmL 1) s m args below meth c H locs 0 0 (MQ below (cQ D cy P0 q tl none xx I J2 A B) args s 0 0 P0) (F0 m 38 ls [.int v_38]) := by
    refine lv_istore (lv' := [(4, .int v_38), (3, .int x3_15), (0, .ref (q 2)), (1, .int x1), (2, .int x2)]) C.1 C.2.1 dX1_blow_38 hl (by decide) rfl (fun ls hl => ?_)
    refine lv_aload_n C.1 C.2.1 dX1_blow_40 rfl (lv_at hl 2 rfl) ?_
    refine cg_X1_50 C hI dX1_blow_41 ?_
    refine cg_X1_17 C hI dX1_blow_44 ?_
    refine lv_iload_n C.1 C.2.1 dX1_blow_47 rfl (lv_at hl 3 rfl) ?_
    refine lv_iconst (v := 1) C.1 C.2.1 dX1_blow_48 (by decide) ?_
    obtain ⟨r_49, hc, hs⟩ := bd_e hs
    refine C_call C hI (kX5_cell l D cy P0 q z tl xx 0 (by decide) _ _ _ _ _ _ _ hc) (rv_X5 hI 0 (by decide)) ml_X1_91 im_X5_cell se_X5_cell ini_X5 co_X5_cell hyX5_cell rfl ⟨by decide, by decide⟩ hl.1 rfl (Nat.le_of_ble_eq_true rfl) dX1_blow_49 (fun H locs hI => ?_)
    refine lv_i2l C.1 C.2.1 dX1_blow_52 rfl ?_
    refine lv_iload C.1 C.2.1 dX1_blow_53 (lv_at hl 0 rfl) ?_
    refine lv_i2l C.1 C.2.1 dX1_blow_55 rfl ?_
    refine lv_lmul C.1 C.2.1 dX1_blow_56 ?_
    refine lv_topl (fun x5_57 ex5_57 => ?_)
    have hs := gv_at ex5_57 hs
    refine lv_lstore (lv' := [(5, .long x5_57), (4, .int v_38), (3, .int x3_15), (0, .ref (q 2)), (1, .int x1), (2, .int x2)]) C.1 C.2.1 dX1_blow_57 hl (by decide) rfl (fun ls hl => ?_)
    refine lv_aload_n C.1 C.2.1 dX1_blow_59 rfl (lv_at hl 3 rfl) ?_
    refine lv_lload C.1 C.2.1 dX1_blow_60 (lv_at hl 0 rfl) ?_
    refine cz_X1_3 C hI dX1_blow_62 ?_
    refine lv_iload_n C.1 C.2.1 dX1_blow_65 rfl (lv_at hl 2 rfl) ?_
    obtain ⟨hk, hs⟩ := ck_e hs
    refine ct_3 C hI hk dX1_blow_66 ?_
    refine lv_i2l C.1 C.2.1 dX1_blow_67 rfl ?_
    refine lv_lmul C.1 C.2.1 dX1_blow_68 ?_
    refine cp_X1_58 C hI dX1_blow_69 (fun H locs hI => ?_)
    have hs := gv_be hs
    refine lv_aload_n C.1 C.2.1 dX1_blow_72 rfl (lv_at hl 3 rfl) ?_
    refine lv_lload C.1 C.2.1 dX1_blow_73 (lv_at hl 0 rfl) ?_
    refine cz_X1_4 C hI dX1_blow_75 ?_
    refine lv_iload_n C.1 C.2.1 dX1_blow_78 rfl (lv_at hl 2 rfl) ?_
    obtain ⟨hk, hs⟩ := ck_e hs
    refine ct_4 C hI hk dX1_blow_79 ?_
    refine lv_i2l C.1 C.2.1 dX1_blow_80 rfl ?_
    refine lv_lmul C.1 C.2.1 dX1_blow_81 ?_
    refine cp_X1_59 C hI dX1_blow_82 (fun H locs hI => ?_)
    have hs := gv_be hs
    obtain rfl := Option.some.inj hs
    exact C_vret C hI dX1_blow_85
  refine lv_icmp_ne (tgt := 36) C.1 C.2.1 dX1_blow_18 (by decide) (fun cn => ?_) (fun cn => ?_)
  · have ev_38 := if_f' cn ev_38
    refine lv_bipush (v := 100) C.1 C.2.1 dX1_blow_36 (by decide) ?_
    subst ev_38
    exact KP_38
  · have ev_38 := if_t' cn ev_38
    refine lv_bipush (v := 100) C.1 C.2.1 dX1_blow_21 (by decide) ?_
    refine lv_aload_n C.1 C.2.1 dX1_blow_23 rfl (lv_at hl 1 rfl) ?_
    refine cg_X1_50 C hI dX1_blow_24 ?_
    refine cg_X1_15 C hI dX1_blow_27 ?_
    refine lv_iconst (v := 4) C.1 C.2.1 dX1_blow_30 (by decide) ?_
    refine ca_15 C hI (by decide) dX1_blow_31 ?_
    refine lv_isub C.1 C.2.1 dX1_blow_32 ?_
    refine lv_goto (tgt := 38) C.1 C.2.1 dX1_blow_33 (by decide) ?_
    subst ev_38
    exact KP_38

def sX1_stands (x1 : Int32) (x2 : Int32) (I : Nat → Int32) (J : Nat → Int64) (A : Nat → Nat → Int32) (B : Nat → Nat → Int64) : Option ((Int32) × (Nat → Nat → Int32) × (Nat → Nat → Int64)) :=
(sX1_addStiffs x1 x2 I J A B).bind fun A =>
gv (((A 64 (ix (0 : Int32)))).toInt64) fun x3_13 =>
gv (((A 64 (ix (1 : Int32)))).toInt64) fun x5_21 =>
gv (((A 64 (ix (2 : Int32)))).toInt64) fun x7_30 =>
gv (((A 64 (ix (3 : Int32)))).toInt64) fun x9_39 =>
gv (((x3_13 * x7_30) * (x5_21 + x9_39)) + ((x5_21 * x9_39) * (x3_13 + x7_30))) fun x11_62 =>
if (lg_cmp x11_62 (0 : Int64)) = 0 then
(some ((0 : Int32), A, B))
else
ck (inB x1 6) <|
gv ((J 58) * (((A 55 (ix x1))).toInt64)) fun x13_85 =>
ck (inB x1 6) <|
gv ((J 59) * (((A 55 (ix x1))).toInt64)) fun x15_99 =>
gv (va_up B 65 (vp_updL (B 65) (ix (0 : Int32)) ((x13_85 * ((((2 : Int64) * x5_21) * x9_39) + (x7_30 * (x5_21 + x9_39)))) + ((x15_99 * x7_30) * (x5_21 - x9_39))))) fun B =>
gv (va_up B 65 (vp_updL (B 65) (ix (2 : Int32)) ((x13_85 * ((((2 : Int64) * x5_21) * x9_39) + (x3_13 * (x5_21 + x9_39)))) - ((x15_99 * x3_13) * (x5_21 - x9_39))))) fun B =>
gv (va_up B 65 (vp_updL (B 65) (ix (1 : Int32)) ((x15_99 * ((((2 : Int64) * x3_13) * x7_30) + (x9_39 * (x3_13 + x7_30)))) - ((x13_85 * x9_39) * (x7_30 - x3_13))))) fun B =>
gv (va_up B 65 (vp_updL (B 65) (ix (3 : Int32)) ((x15_99 * ((((2 : Int64) * x3_13) * x7_30) + (x5_21 * (x3_13 + x7_30)))) + ((x13_85 * x5_21) * (x7_30 - x3_13))))) fun B =>
ck (inB x1 6) <|
gv ((((A 56 (ix x1))).toInt64) * (((I 57)).toInt64)) fun x17_262 =>
gv (va_up B 66 (vp_updL (B 66) (ix (0 : Int32)) ((J 59) * x17_262))) fun B =>
gv (va_up B 66 (vp_updL (B 66) (ix (2 : Int32)) (-(B 66 (ix (0 : Int32)))))) fun B =>
gv (va_up B 66 (vp_updL (B 66) (ix (1 : Int32)) ((J 58) * x17_262))) fun B =>
gv (va_up B 66 (vp_updL (B 66) (ix (3 : Int32)) (-(B 66 (ix (1 : Int32)))))) fun B =>
(sX1_hasCommonDivisors ((2 : Int64) * x11_62) I J A B).bind fun (r_323, B) =>
ck (isB r_323) <|
some (r_323, A, B)
set_option maxRecDepth 100000 in
set_option maxHeartbeats 8000000 in
theorem kX1_stands (l : Launch) (D : va_G) (cy : Nat → ClassId) (P0 : Nat → Prop) (q z : Nat → Nat) (tl : va_W) (xx : (Nat → Option Nat) × (Nat → Option Nat) × Nat) (x1 : Int32) (x2 : Int32) (I : Nat → Int32) (J : Nat → Int64) (A : Nat → Nat → Int32) (B : Nat → Nat → Int64) (r : Int32) (A2 : Nat → Nat → Int32) (B2 : Nat → Nat → Int64) (hs : sX1_stands x1 x2 I J A B = some (r, A2, B2)) : McC l yX1_stands cX1_stands 19 (some .boolean) 1 [.ref (q 2), .int x1, .int x2] D cy P0 q z tl xx I J A B (some (.int r)) xx I J A2 B2 := by
  refine C_start rfl (Nat.le_of_ble_eq_true rfl) ?_
  intro p e s m args below meth c H locs C hI ls hl
  have hl : lv_has ls 19 [(0, .ref (q 2)), (1, .int x1), (2, .int x2)] := hl
  rw [sX1_stands] at hs
  refine lv_aload_n C.1 C.2.1 dX1_stands_0 rfl (lv_at hl 0 rfl) ?_
  refine lv_iload_n C.1 C.2.1 dX1_stands_1 rfl (lv_at hl 1 rfl) ?_
  refine lv_iload_n C.1 C.2.1 dX1_stands_2 rfl (lv_at hl 2 rfl) ?_
  obtain ⟨A, hc, hs⟩ := bd_e hs
  refine C_call C hI (kX1_addStiffs l D cy P0 q z tl xx _ _ _ _ _ _ _ hc) (rv_X1 hI) ml_X1_103 im_X1_addStiffs se_X1_addStiffs ini_X1 co_X1_addStiffs hyX1_addStiffs rfl ⟨by decide, by decide⟩ hl.1 rfl (Nat.le_of_ble_eq_true rfl) dX1_stands_3 (fun H locs hI => ?_)
  refine lv_aload_n C.1 C.2.1 dX1_stands_6 rfl (lv_at hl 0 rfl) ?_
  refine cg_X1_64 C hI dX1_stands_7 ?_
  refine lv_iconst (v := 0) C.1 C.2.1 dX1_stands_10 (by decide) ?_
  refine ca_64 C hI (by decide) dX1_stands_11 ?_
  refine lv_i2l C.1 C.2.1 dX1_stands_12 rfl ?_
  refine lv_topl (fun x3_13 ex3_13 => ?_)
  have hs := gv_at ex3_13 hs
  refine lv_lstore_n (lv' := [(3, .long x3_13), (0, .ref (q 2)), (1, .int x1), (2, .int x2)]) C.1 C.2.1 dX1_stands_13 rfl hl (by decide) rfl (fun ls hl => ?_)
  refine lv_aload_n C.1 C.2.1 dX1_stands_14 rfl (lv_at hl 1 rfl) ?_
  refine cg_X1_64 C hI dX1_stands_15 ?_
  refine lv_iconst (v := 1) C.1 C.2.1 dX1_stands_18 (by decide) ?_
  refine ca_64 C hI (by decide) dX1_stands_19 ?_
  refine lv_i2l C.1 C.2.1 dX1_stands_20 rfl ?_
  refine lv_topl (fun x5_21 ex5_21 => ?_)
  have hs := gv_at ex5_21 hs
  refine lv_lstore (lv' := [(5, .long x5_21), (3, .long x3_13), (0, .ref (q 2)), (1, .int x1), (2, .int x2)]) C.1 C.2.1 dX1_stands_21 hl (by decide) rfl (fun ls hl => ?_)
  refine lv_aload_n C.1 C.2.1 dX1_stands_23 rfl (lv_at hl 2 rfl) ?_
  refine cg_X1_64 C hI dX1_stands_24 ?_
  refine lv_iconst (v := 2) C.1 C.2.1 dX1_stands_27 (by decide) ?_
  refine ca_64 C hI (by decide) dX1_stands_28 ?_
  refine lv_i2l C.1 C.2.1 dX1_stands_29 rfl ?_
  refine lv_topl (fun x7_30 ex7_30 => ?_)
  have hs := gv_at ex7_30 hs
  refine lv_lstore (lv' := [(7, .long x7_30), (5, .long x5_21), (3, .long x3_13), (0, .ref (q 2)), (1, .int x1), (2, .int x2)]) C.1 C.2.1 dX1_stands_30 hl (by decide) rfl (fun ls hl => ?_)
  refine lv_aload_n C.1 C.2.1 dX1_stands_32 rfl (lv_at hl 3 rfl) ?_
  refine cg_X1_64 C hI dX1_stands_33 ?_
  refine lv_iconst (v := 3) C.1 C.2.1 dX1_stands_36 (by decide) ?_
  refine ca_64 C hI (by decide) dX1_stands_37 ?_
  refine lv_i2l C.1 C.2.1 dX1_stands_38 rfl ?_
  refine lv_topl (fun x9_39 ex9_39 => ?_)
  have hs := gv_at ex9_39 hs
  refine lv_lstore (lv' := [(9, .long x9_39), (7, .long x7_30), (5, .long x5_21), (3, .long x3_13), (0, .ref (q 2)), (1, .int x1), (2, .int x2)]) C.1 C.2.1 dX1_stands_39 hl (by decide) rfl (fun ls hl => ?_)
  refine lv_lload_n C.1 C.2.1 dX1_stands_41 rfl (lv_at hl 3 rfl) ?_
  refine lv_lload C.1 C.2.1 dX1_stands_42 (lv_at hl 1 rfl) ?_
  refine lv_lmul C.1 C.2.1 dX1_stands_44 ?_
  refine lv_lload C.1 C.2.1 dX1_stands_45 (lv_at hl 2 rfl) ?_
  refine lv_lload C.1 C.2.1 dX1_stands_47 (lv_at hl 0 rfl) ?_
  refine lv_ladd C.1 C.2.1 dX1_stands_49 ?_
  refine lv_lmul C.1 C.2.1 dX1_stands_50 ?_
  refine lv_lload C.1 C.2.1 dX1_stands_51 (lv_at hl 2 rfl) ?_
  refine lv_lload C.1 C.2.1 dX1_stands_53 (lv_at hl 0 rfl) ?_
  refine lv_lmul C.1 C.2.1 dX1_stands_55 ?_
  refine lv_lload_n C.1 C.2.1 dX1_stands_56 rfl (lv_at hl 3 rfl) ?_
  refine lv_lload C.1 C.2.1 dX1_stands_57 (lv_at hl 1 rfl) ?_
  refine lv_ladd C.1 C.2.1 dX1_stands_59 ?_
  refine lv_lmul C.1 C.2.1 dX1_stands_60 ?_
  refine lv_ladd C.1 C.2.1 dX1_stands_61 ?_
  refine lv_topl (fun x11_62 ex11_62 => ?_)
  have hs := gv_at ex11_62 hs
  refine lv_lstore (lv' := [(11, .long x11_62), (9, .long x9_39), (7, .long x7_30), (5, .long x5_21), (3, .long x3_13), (0, .ref (q 2)), (1, .int x1), (2, .int x2)]) C.1 C.2.1 dX1_stands_62 hl (by decide) rfl (fun ls hl => ?_)
  refine lv_lload C.1 C.2.1 dX1_stands_64 (lv_at hl 0 rfl) ?_
  refine lv_lconst (v := 0) C.1 C.2.1 dX1_stands_66 (by decide) ?_
  refine W.lcmp C.1 C.2.1 dX1_stands_67 ?_
  refine lv_if_ne (tgt := 73) C.1 C.2.1 dX1_stands_68 (by decide) (fun cn => ?_) (fun cn => ?_)
  · have hs := if_f cn hs
    refine lv_aload_n C.1 C.2.1 dX1_stands_73 rfl (lv_at hl 5 rfl) ?_
    refine cg_X1_58 C hI dX1_stands_74 ?_
    refine lv_aload_n C.1 C.2.1 dX1_stands_77 rfl (lv_at hl 5 rfl) ?_
    refine cg_X1_55 C hI dX1_stands_78 ?_
    refine lv_iload_n C.1 C.2.1 dX1_stands_81 rfl (lv_at hl 6 rfl) ?_
    obtain ⟨hk, hs⟩ := ck_e hs
    refine ca_55 C hI hk dX1_stands_82 ?_
    refine lv_i2l C.1 C.2.1 dX1_stands_83 rfl ?_
    refine lv_lmul C.1 C.2.1 dX1_stands_84 ?_
    refine lv_topl (fun x13_85 ex13_85 => ?_)
    have hs := gv_at ex13_85 hs
    refine lv_lstore (lv' := [(13, .long x13_85), (11, .long x11_62), (9, .long x9_39), (7, .long x7_30), (5, .long x5_21), (3, .long x3_13), (0, .ref (q 2)), (1, .int x1), (2, .int x2)]) C.1 C.2.1 dX1_stands_85 hl (by decide) rfl (fun ls hl => ?_)
    refine lv_aload_n C.1 C.2.1 dX1_stands_87 rfl (lv_at hl 6 rfl) ?_
    refine cg_X1_59 C hI dX1_stands_88 ?_
    refine lv_aload_n C.1 C.2.1 dX1_stands_91 rfl (lv_at hl 6 rfl) ?_
    refine cg_X1_55 C hI dX1_stands_92 ?_
    refine lv_iload_n C.1 C.2.1 dX1_stands_95 rfl (lv_at hl 7 rfl) ?_
    obtain ⟨hk, hs⟩ := ck_e hs
    refine ca_55 C hI hk dX1_stands_96 ?_
    refine lv_i2l C.1 C.2.1 dX1_stands_97 rfl ?_
    refine lv_lmul C.1 C.2.1 dX1_stands_98 ?_
    refine lv_topl (fun x15_99 ex15_99 => ?_)
    have hs := gv_at ex15_99 hs
    refine lv_lstore (lv' := [(15, .long x15_99), (13, .long x13_85), (11, .long x11_62), (9, .long x9_39), (7, .long x7_30), (5, .long x5_21), (3, .long x3_13), (0, .ref (q 2)), (1, .int x1), (2, .int x2)]) C.1 C.2.1 dX1_stands_99 hl (by decide) rfl (fun ls hl => ?_)
    refine lv_aload_n C.1 C.2.1 dX1_stands_101 rfl (lv_at hl 7 rfl) ?_
    refine cg_X1_65 C hI dX1_stands_102 ?_
    refine lv_iconst (v := 0) C.1 C.2.1 dX1_stands_105 (by decide) ?_
    refine lv_lload C.1 C.2.1 dX1_stands_106 (lv_at hl 1 rfl) ?_
    refine lv_ldc2 C.1 C.2.1 C.2.2.2.1 (C.2.2.2.2.1 _ kl_X1_107) dX1_stands_108 ?_
    refine lv_lload C.1 C.2.1 dX1_stands_111 (lv_at hl 5 rfl) ?_
    refine lv_lmul C.1 C.2.1 dX1_stands_113 ?_
    refine lv_lload C.1 C.2.1 dX1_stands_114 (lv_at hl 3 rfl) ?_
    refine lv_lmul C.1 C.2.1 dX1_stands_116 ?_
    refine lv_lload C.1 C.2.1 dX1_stands_117 (lv_at hl 4 rfl) ?_
    refine lv_lload C.1 C.2.1 dX1_stands_119 (lv_at hl 5 rfl) ?_
    refine lv_lload C.1 C.2.1 dX1_stands_121 (lv_at hl 3 rfl) ?_
    refine lv_ladd C.1 C.2.1 dX1_stands_123 ?_
    refine lv_lmul C.1 C.2.1 dX1_stands_124 ?_
    refine lv_ladd C.1 C.2.1 dX1_stands_125 ?_
    refine lv_lmul C.1 C.2.1 dX1_stands_126 ?_
    refine lv_lload C.1 C.2.1 dX1_stands_127 (lv_at hl 0 rfl) ?_
    refine lv_lload C.1 C.2.1 dX1_stands_129 (lv_at hl 4 rfl) ?_
    refine lv_lmul C.1 C.2.1 dX1_stands_131 ?_
    refine lv_lload C.1 C.2.1 dX1_stands_132 (lv_at hl 5 rfl) ?_
    refine lv_lload C.1 C.2.1 dX1_stands_134 (lv_at hl 3 rfl) ?_
    refine lv_lsub C.1 C.2.1 dX1_stands_136 ?_
    refine lv_lmul C.1 C.2.1 dX1_stands_137 ?_
    refine lv_ladd C.1 C.2.1 dX1_stands_138 ?_
    refine cs_65 C hI (by decide) dX1_stands_139 (fun H locs hI => ?_)
    have hs := gv_be hs
    refine lv_aload_n C.1 C.2.1 dX1_stands_140 rfl (lv_at hl 7 rfl) ?_
    refine cg_X1_65 C hI dX1_stands_141 ?_
    refine lv_iconst (v := 2) C.1 C.2.1 dX1_stands_144 (by decide) ?_
    refine lv_lload C.1 C.2.1 dX1_stands_145 (lv_at hl 1 rfl) ?_
    refine lv_ldc2 C.1 C.2.1 C.2.2.2.1 (C.2.2.2.2.1 _ kl_X1_107) dX1_stands_147 ?_
    refine lv_lload C.1 C.2.1 dX1_stands_150 (lv_at hl 5 rfl) ?_
    refine lv_lmul C.1 C.2.1 dX1_stands_152 ?_
    refine lv_lload C.1 C.2.1 dX1_stands_153 (lv_at hl 3 rfl) ?_
    refine lv_lmul C.1 C.2.1 dX1_stands_155 ?_
    refine lv_lload_n C.1 C.2.1 dX1_stands_156 rfl (lv_at hl 6 rfl) ?_
    refine lv_lload C.1 C.2.1 dX1_stands_157 (lv_at hl 5 rfl) ?_
    refine lv_lload C.1 C.2.1 dX1_stands_159 (lv_at hl 3 rfl) ?_
    refine lv_ladd C.1 C.2.1 dX1_stands_161 ?_
    refine lv_lmul C.1 C.2.1 dX1_stands_162 ?_
    refine lv_ladd C.1 C.2.1 dX1_stands_163 ?_
    refine lv_lmul C.1 C.2.1 dX1_stands_164 ?_
    refine lv_lload C.1 C.2.1 dX1_stands_165 (lv_at hl 0 rfl) ?_
    refine lv_lload_n C.1 C.2.1 dX1_stands_167 rfl (lv_at hl 6 rfl) ?_
    refine lv_lmul C.1 C.2.1 dX1_stands_168 ?_
    refine lv_lload C.1 C.2.1 dX1_stands_169 (lv_at hl 5 rfl) ?_
    refine lv_lload C.1 C.2.1 dX1_stands_171 (lv_at hl 3 rfl) ?_
    refine lv_lsub C.1 C.2.1 dX1_stands_173 ?_
    refine lv_lmul C.1 C.2.1 dX1_stands_174 ?_
    refine lv_lsub C.1 C.2.1 dX1_stands_175 ?_
    refine cs_65 C hI (by decide) dX1_stands_176 (fun H locs hI => ?_)
    have hs := gv_be hs
    refine lv_aload_n C.1 C.2.1 dX1_stands_177 rfl (lv_at hl 7 rfl) ?_
    refine cg_X1_65 C hI dX1_stands_178 ?_
    refine lv_iconst (v := 1) C.1 C.2.1 dX1_stands_181 (by decide) ?_
    refine lv_lload C.1 C.2.1 dX1_stands_182 (lv_at hl 0 rfl) ?_
    refine lv_ldc2 C.1 C.2.1 C.2.2.2.1 (C.2.2.2.2.1 _ kl_X1_107) dX1_stands_184 ?_
    refine lv_lload_n C.1 C.2.1 dX1_stands_187 rfl (lv_at hl 6 rfl) ?_
    refine lv_lmul C.1 C.2.1 dX1_stands_188 ?_
    refine lv_lload C.1 C.2.1 dX1_stands_189 (lv_at hl 4 rfl) ?_
    refine lv_lmul C.1 C.2.1 dX1_stands_191 ?_
    refine lv_lload C.1 C.2.1 dX1_stands_192 (lv_at hl 3 rfl) ?_
    refine lv_lload_n C.1 C.2.1 dX1_stands_194 rfl (lv_at hl 6 rfl) ?_
    refine lv_lload C.1 C.2.1 dX1_stands_195 (lv_at hl 4 rfl) ?_
    refine lv_ladd C.1 C.2.1 dX1_stands_197 ?_
    refine lv_lmul C.1 C.2.1 dX1_stands_198 ?_
    refine lv_ladd C.1 C.2.1 dX1_stands_199 ?_
    refine lv_lmul C.1 C.2.1 dX1_stands_200 ?_
    refine lv_lload C.1 C.2.1 dX1_stands_201 (lv_at hl 1 rfl) ?_
    refine lv_lload C.1 C.2.1 dX1_stands_203 (lv_at hl 3 rfl) ?_
    refine lv_lmul C.1 C.2.1 dX1_stands_205 ?_
    refine lv_lload C.1 C.2.1 dX1_stands_206 (lv_at hl 4 rfl) ?_
    refine lv_lload_n C.1 C.2.1 dX1_stands_208 rfl (lv_at hl 6 rfl) ?_
    refine lv_lsub C.1 C.2.1 dX1_stands_209 ?_
    refine lv_lmul C.1 C.2.1 dX1_stands_210 ?_
    refine lv_lsub C.1 C.2.1 dX1_stands_211 ?_
    refine cs_65 C hI (by decide) dX1_stands_212 (fun H locs hI => ?_)
    have hs := gv_be hs
    refine lv_aload_n C.1 C.2.1 dX1_stands_213 rfl (lv_at hl 7 rfl) ?_
    refine cg_X1_65 C hI dX1_stands_214 ?_
    refine lv_iconst (v := 3) C.1 C.2.1 dX1_stands_217 (by decide) ?_
    refine lv_lload C.1 C.2.1 dX1_stands_218 (lv_at hl 0 rfl) ?_
    refine lv_ldc2 C.1 C.2.1 C.2.2.2.1 (C.2.2.2.2.1 _ kl_X1_107) dX1_stands_220 ?_
    refine lv_lload_n C.1 C.2.1 dX1_stands_223 rfl (lv_at hl 6 rfl) ?_
    refine lv_lmul C.1 C.2.1 dX1_stands_224 ?_
    refine lv_lload C.1 C.2.1 dX1_stands_225 (lv_at hl 4 rfl) ?_
    refine lv_lmul C.1 C.2.1 dX1_stands_227 ?_
    refine lv_lload C.1 C.2.1 dX1_stands_228 (lv_at hl 5 rfl) ?_
    refine lv_lload_n C.1 C.2.1 dX1_stands_230 rfl (lv_at hl 6 rfl) ?_
    refine lv_lload C.1 C.2.1 dX1_stands_231 (lv_at hl 4 rfl) ?_
    refine lv_ladd C.1 C.2.1 dX1_stands_233 ?_
    refine lv_lmul C.1 C.2.1 dX1_stands_234 ?_
    refine lv_ladd C.1 C.2.1 dX1_stands_235 ?_
    refine lv_lmul C.1 C.2.1 dX1_stands_236 ?_
    refine lv_lload C.1 C.2.1 dX1_stands_237 (lv_at hl 1 rfl) ?_
    refine lv_lload C.1 C.2.1 dX1_stands_239 (lv_at hl 5 rfl) ?_
    refine lv_lmul C.1 C.2.1 dX1_stands_241 ?_
    refine lv_lload C.1 C.2.1 dX1_stands_242 (lv_at hl 4 rfl) ?_
    refine lv_lload_n C.1 C.2.1 dX1_stands_244 rfl (lv_at hl 6 rfl) ?_
    refine lv_lsub C.1 C.2.1 dX1_stands_245 ?_
    refine lv_lmul C.1 C.2.1 dX1_stands_246 ?_
    refine lv_ladd C.1 C.2.1 dX1_stands_247 ?_
    refine cs_65 C hI (by decide) dX1_stands_248 (fun H locs hI => ?_)
    have hs := gv_be hs
    refine lv_aload_n C.1 C.2.1 dX1_stands_249 rfl (lv_at hl 7 rfl) ?_
    refine cg_X1_56 C hI dX1_stands_250 ?_
    refine lv_iload_n C.1 C.2.1 dX1_stands_253 rfl (lv_at hl 8 rfl) ?_
    obtain ⟨hk, hs⟩ := ck_e hs
    refine ca_56 C hI hk dX1_stands_254 ?_
    refine lv_i2l C.1 C.2.1 dX1_stands_255 rfl ?_
    refine lv_aload_n C.1 C.2.1 dX1_stands_256 rfl (lv_at hl 7 rfl) ?_
    refine cg_X1_57 C hI dX1_stands_257 ?_
    refine lv_i2l C.1 C.2.1 dX1_stands_260 rfl ?_
    refine lv_lmul C.1 C.2.1 dX1_stands_261 ?_
    refine lv_topl (fun x17_262 ex17_262 => ?_)
    have hs := gv_at ex17_262 hs
    refine lv_lstore (lv' := [(17, .long x17_262), (15, .long x15_99), (13, .long x13_85), (11, .long x11_62), (9, .long x9_39), (7, .long x7_30), (5, .long x5_21), (3, .long x3_13), (0, .ref (q 2)), (1, .int x1), (2, .int x2)]) C.1 C.2.1 dX1_stands_262 hl (by decide) rfl (fun ls hl => ?_)
    refine lv_aload_n C.1 C.2.1 dX1_stands_264 rfl (lv_at hl 8 rfl) ?_
    refine cg_X1_66 C hI dX1_stands_265 ?_
    refine lv_iconst (v := 0) C.1 C.2.1 dX1_stands_268 (by decide) ?_
    refine lv_aload_n C.1 C.2.1 dX1_stands_269 rfl (lv_at hl 8 rfl) ?_
    refine cg_X1_59 C hI dX1_stands_270 ?_
    refine lv_lload C.1 C.2.1 dX1_stands_273 (lv_at hl 0 rfl) ?_
    refine lv_lmul C.1 C.2.1 dX1_stands_275 ?_
    refine cs_66 C hI (by decide) dX1_stands_276 (fun H locs hI => ?_)
    have hs := gv_be hs
    refine lv_aload_n C.1 C.2.1 dX1_stands_277 rfl (lv_at hl 8 rfl) ?_
    refine cg_X1_66 C hI dX1_stands_278 ?_
    refine lv_iconst (v := 2) C.1 C.2.1 dX1_stands_281 (by decide) ?_
    refine lv_aload_n C.1 C.2.1 dX1_stands_282 rfl (lv_at hl 8 rfl) ?_
    refine cg_X1_66 C hI dX1_stands_283 ?_
    refine lv_iconst (v := 0) C.1 C.2.1 dX1_stands_286 (by decide) ?_
    refine ca_66 C hI (by decide) dX1_stands_287 ?_
    refine lv_lneg C.1 C.2.1 dX1_stands_288 ?_
    refine cs_66 C hI (by decide) dX1_stands_289 (fun H locs hI => ?_)
    have hs := gv_be hs
    refine lv_aload_n C.1 C.2.1 dX1_stands_290 rfl (lv_at hl 8 rfl) ?_
    refine cg_X1_66 C hI dX1_stands_291 ?_
    refine lv_iconst (v := 1) C.1 C.2.1 dX1_stands_294 (by decide) ?_
    refine lv_aload_n C.1 C.2.1 dX1_stands_295 rfl (lv_at hl 8 rfl) ?_
    refine cg_X1_58 C hI dX1_stands_296 ?_
    refine lv_lload C.1 C.2.1 dX1_stands_299 (lv_at hl 0 rfl) ?_
    refine lv_lmul C.1 C.2.1 dX1_stands_301 ?_
    refine cs_66 C hI (by decide) dX1_stands_302 (fun H locs hI => ?_)
    have hs := gv_be hs
    refine lv_aload_n C.1 C.2.1 dX1_stands_303 rfl (lv_at hl 8 rfl) ?_
    refine cg_X1_66 C hI dX1_stands_304 ?_
    refine lv_iconst (v := 3) C.1 C.2.1 dX1_stands_307 (by decide) ?_
    refine lv_aload_n C.1 C.2.1 dX1_stands_308 rfl (lv_at hl 8 rfl) ?_
    refine cg_X1_66 C hI dX1_stands_309 ?_
    refine lv_iconst (v := 1) C.1 C.2.1 dX1_stands_312 (by decide) ?_
    refine ca_66 C hI (by decide) dX1_stands_313 ?_
    refine lv_lneg C.1 C.2.1 dX1_stands_314 ?_
    refine cs_66 C hI (by decide) dX1_stands_315 (fun H locs hI => ?_)
    have hs := gv_be hs
    refine lv_aload_n C.1 C.2.1 dX1_stands_316 rfl (lv_at hl 8 rfl) ?_
    refine lv_ldc2 C.1 C.2.1 C.2.2.2.1 (C.2.2.2.2.1 _ kl_X1_107) dX1_stands_317 ?_
    refine lv_lload C.1 C.2.1 dX1_stands_320 (lv_at hl 3 rfl) ?_
    refine lv_lmul C.1 C.2.1 dX1_stands_322 ?_
    obtain ⟨⟨r_323, B⟩, hc, hs⟩ := bd_e hs
    refine C_call C hI (kX1_hasCommonDivisors l D cy P0 q z tl xx _ _ _ _ _ _ _ hc) (rv_X1 hI) ml_X1_109 im_X1_hasCommonDivisors se_X1_hasCommonDivisors ini_X1 co_X1_hasCommonDivisors hyX1_hasCommonDivisors rfl ⟨by decide, by decide⟩ hl.1 rfl (Nat.le_of_ble_eq_true rfl) dX1_stands_323 (fun H locs hI => ?_)
    obtain ⟨hb, hs⟩ := ck_e hs
    obtain ⟨rfl, rfl, rfl⟩ := so3 hs
    exact C_zret C hI hb dX1_stands_326
  · have hs := if_t cn hs
    refine lv_iconst (v := 0) C.1 C.2.1 dX1_stands_71 (by decide) ?_
    obtain ⟨rfl, rfl, rfl⟩ := so3 hs
    exact C_zret C hI (by decide) dX1_stands_72

def sX1_pullOf (x1 : Int32) (I : Nat → Int32) (J : Nat → Int64) (A : Nat → Nat → Int32) (B : Nat → Nat → Int64) : Option ((Int64)) :=
(sX1_faceOf x1).bind fun r_1 =>
gv (fun (y0_j27 : Int64) =>
ck (inB x1 48) <|
ck (inB r_1 4) <|
some ((((A 10 (ix x1))).toInt64) * (y0_j27 + (B 66 (ix r_1))))) fun k_27 =>
if (x1 - x1 / (2 : Int32) * (2 : Int32)) = 0 then
(ck (inB r_1 4) <|
k_27 (B 65 (ix r_1)))
else
ck (inB r_1 4) <|
k_27 (-(B 65 (ix r_1)))
set_option maxRecDepth 100000 in
set_option maxHeartbeats 8000000 in
theorem kX1_pullOf (l : Launch) (D : va_G) (cy : Nat → ClassId) (P0 : Nat → Prop) (q z : Nat → Nat) (tl : va_W) (xx : (Nat → Option Nat) × (Nat → Option Nat) × Nat) (x1 : Int32) (I : Nat → Int32) (J : Nat → Int64) (A : Nat → Nat → Int32) (B : Nat → Nat → Int64) (r : Int64) (hs : sX1_pullOf x1 I J A B = some r) : McC l yX1_pullOf cX1_pullOf 5 (some .long) 1 [.ref (q 2), .int x1] D cy P0 q z tl xx I J A B (some (.long r)) xx I J A B := by
  refine C_start rfl (Nat.le_of_ble_eq_true rfl) ?_
  intro p e s m args below meth c H locs C hI ls hl
  have hl : lv_has ls 5 [(0, .ref (q 2)), (1, .int x1)] := hl
  rw [sX1_pullOf] at hs
  refine lv_iload_n C.1 C.2.1 dX1_pullOf_0 rfl (lv_at hl 1 rfl) ?_
  obtain ⟨r_1, hc, hs⟩ := bd_e hs
  refine S_call (h := 1) C (kX1_faceOf l _ _ hc) ml_X1_118 st_X1_faceOf ini_X1 co_X1_faceOf hyX1_faceOf rfl ⟨by decide, by decide⟩ hl.1 rfl (Nat.le_of_ble_eq_true rfl) dX1_pullOf_1 ⟨Nat.le_refl 0, Nat.le_refl 0, Nat.le_refl _, Nat.le_refl _⟩ ?_
  refine lv_istore_n (lv' := [(2, .int r_1), (0, .ref (q 2)), (1, .int x1)]) C.1 C.2.1 dX1_pullOf_4 rfl hl (by decide) rfl (fun ls hl => ?_)
  refine lv_iload_n C.1 C.2.1 dX1_pullOf_5 rfl (lv_at hl 2 rfl) ?_
  refine lv_iconst (v := 2) C.1 C.2.1 dX1_pullOf_6 (by decide) ?_
  refine lv_irem C.1 C.2.1 dX1_pullOf_7 (by decide) ?_
  obtain ⟨k_27, ek_27, hs⟩ := gv_ex hs
  have KJ_27 : ∀ (y0_j27 : Int64) (H : Heap) (locs : List Loc) (ls : Array Slot), k_27 y0_j27 = some r → CI D cy s P0 s.heap H locs q z tl xx I J A B → lv_has ls 5 [(0, .ref (q 2)), (1, .int x1), (2, .int r_1)] → W p l e (rmL 1) s m args below meth c H locs 0 0 (MQ below (cQ D cy P0 q tl (some (.long r)) xx I J A B) args s 0 0 P0) (F0 m 27 ls [.long y0_j27]) := by
    intro y0_j27 H locs ls hs hI hl
    rw [ek_27] at hs
    refine lv_lstore_n (lv' := [(3, .long y0_j27), (0, .ref (q 2)), (1, .int x1), (2, .int r_1)]) C.1 C.2.1 dX1_pullOf_27 rfl hl (by decide) rfl (fun ls hl => ?_)
    refine lv_aload_n C.1 C.2.1 dX1_pullOf_28 rfl (lv_at hl 1 rfl) ?_
    refine cg_X1_50 C hI dX1_pullOf_29 ?_
    refine cg_X1_10 C hI dX1_pullOf_32 ?_
    refine lv_iload_n C.1 C.2.1 dX1_pullOf_35 rfl (lv_at hl 2 rfl) ?_
    obtain ⟨hk, hs⟩ := ck_e hs
    refine ca_10 C hI hk dX1_pullOf_36 ?_
    refine lv_i2l C.1 C.2.1 dX1_pullOf_37 rfl ?_
    refine lv_lload_n C.1 C.2.1 dX1_pullOf_38 rfl (lv_at hl 0 rfl) ?_
    refine lv_aload_n C.1 C.2.1 dX1_pullOf_39 rfl (lv_at hl 1 rfl) ?_
    refine cg_X1_66 C hI dX1_pullOf_40 ?_
    refine lv_iload_n C.1 C.2.1 dX1_pullOf_43 rfl (lv_at hl 3 rfl) ?_
    obtain ⟨hk, hs⟩ := ck_e hs
    refine ca_66 C hI hk dX1_pullOf_44 ?_
    refine lv_ladd C.1 C.2.1 dX1_pullOf_45 ?_
    refine lv_lmul C.1 C.2.1 dX1_pullOf_46 ?_
    obtain rfl := Option.some.inj hs
    exact C_lret C hI dX1_pullOf_47
  refine lv_if_ne (tgt := 20) C.1 C.2.1 dX1_pullOf_8 (by decide) (fun cn => ?_) (fun cn => ?_)
  · have hs := if_f cn hs
    refine lv_aload_n C.1 C.2.1 dX1_pullOf_20 rfl (lv_at hl 1 rfl) ?_
    refine cg_X1_65 C hI dX1_pullOf_21 ?_
    refine lv_iload_n C.1 C.2.1 dX1_pullOf_24 rfl (lv_at hl 0 rfl) ?_
    obtain ⟨hk, hs⟩ := ck_e hs
    refine ca_65 C hI hk dX1_pullOf_25 ?_
    refine lv_lneg C.1 C.2.1 dX1_pullOf_26 ?_
    exact KJ_27 _ _ _ _ hs hI (lv_sub hl [1, 2, 0] rfl)
  · have hs := if_t cn hs
    refine lv_aload_n C.1 C.2.1 dX1_pullOf_11 rfl (lv_at hl 1 rfl) ?_
    refine cg_X1_65 C hI dX1_pullOf_12 ?_
    refine lv_iload_n C.1 C.2.1 dX1_pullOf_15 rfl (lv_at hl 0 rfl) ?_
    obtain ⟨hk, hs⟩ := ck_e hs
    refine ca_65 C hI hk dX1_pullOf_16 ?_
    refine lv_goto (tgt := 27) C.1 C.2.1 dX1_pullOf_17 (by decide) ?_
    exact KJ_27 _ _ _ _ hs hI (lv_sub hl [1, 2, 0] rfl)

def sX2_sets (I : Nat → Int32) (J : Nat → Int64) (A : Nat → Nat → Int32) (B : Nat → Nat → Int64) : Option ((Int32)) :=
some (if (512 : Int32) < ((1 : Int32) <<< ((I 73) &&& 31)) then (512 : Int32) else ((1 : Int32) <<< ((I 73) &&& 31)))
set_option maxRecDepth 100000 in
set_option maxHeartbeats 8000000 in
theorem kX2_sets (l : Launch) (D : va_G) (cy : Nat → ClassId) (P0 : Nat → Prop) (q z : Nat → Nat) (tl : va_W) (xx : (Nat → Option Nat) × (Nat → Option Nat) × Nat) (I : Nat → Int32) (J : Nat → Int64) (A : Nat → Nat → Int32) (B : Nat → Nat → Int64) (r : Int32) (hs : sX2_sets I J A B = some r) : McC l yX2_sets cX2_sets 1 (some .int) 1 [.ref (q 3)] D cy P0 q z tl xx I J A B (some (.int r)) xx I J A B := by
  refine C_start rfl (Nat.le_of_ble_eq_true rfl) ?_
  intro p e s m args below meth c H locs C hI ls hl
  have hl : lv_has ls 1 [(0, .ref (q 3))] := hl
  rw [sX2_sets] at hs
  refine lv_iconst (v := 1) C.1 C.2.1 dX2_sets_0 (by decide) ?_
  refine lv_aload_n C.1 C.2.1 dX2_sets_1 rfl (lv_at hl 0 rfl) ?_
  refine cg_X2_73 C hI dX2_sets_2 ?_
  refine lv_ishl C.1 C.2.1 dX2_sets_5 ?_
  refine lv_sipush (v := 512) C.1 C.2.1 dX2_sets_6 (by decide) ?_
  refine c_min C hl.1 ml_X2_51 (by decide) (Nat.le_of_ble_eq_true rfl) dX2_sets_9 ?_
  obtain rfl := Option.some.inj hs
  exact C_iret C hI dX2_sets_12

def lX2_mend_2 : Nat → Int32 → Int32 → (Nat → Int32) → (Nat → Int64) → (Nat → Nat → Int32) → (Nat → Nat → Int64) → Option ((Nat → Nat → Int32))
  | 0, _, _, _, _, _, _ => none
  | n + 1, x1, x2, I, J, A, B =>
    if (I 73) ≤ x2 then
    (some A)
    else
    gv (if ((ushr x1 x2) &&& (1 : Int32)) = 0 then (0 : Int32) else (1 : Int32)) fun v_23 =>
    ck (inB x2 9) <|
    if v_23 = 0 then
    (ck (inB x2 9) <|
    (sX4_holdOf (A 72 (ix x2)) I J A B).bind fun r_63 =>
    ck (inB (A 72 (ix x2)) 48) <|
    gv (va_up A 51 (upd (A 51) (ix (A 72 (ix x2))) r_63)) fun A =>
    gv (x2 + 1) fun x2_67 =>
    lX2_mend_2 n x1 x2_67 I J A B)
    else
    ck (inB (A 72 (ix x2)) 48) <|
    gv (va_up A 51 (upd (A 51) (ix (A 72 (ix x2))) (A 15 (ix (0 : Int32))))) fun A =>
    gv (x2 + 1) fun x2_67 =>
    lX2_mend_2 n x1 x2_67 I J A B
def sX2_mend (x1 : Int32) (I : Nat → Int32) (J : Nat → Int64) (A : Nat → Nat → Int32) (B : Nat → Nat → Int64) : Option ((Nat → Nat → Int32)) :=
(lX2_mend_2 FU x1 (0 : Int32) I J A B).bind fun A =>
some A
set_option maxRecDepth 100000 in
set_option maxHeartbeats 8000000 in
theorem kX2_mend (l : Launch) (D : va_G) (cy : Nat → ClassId) (P0 : Nat → Prop) (q z : Nat → Nat) (tl : va_W) (xx : (Nat → Option Nat) × (Nat → Option Nat) × Nat) (x1 : Int32) (I : Nat → Int32) (J : Nat → Int64) (A : Nat → Nat → Int32) (B : Nat → Nat → Int64) (A2 : Nat → Nat → Int32) (hs : sX2_mend x1 I J A B = some A2) : McC l yX2_mend cX2_mend 4 none 1 [.ref (q 3), .int x1] D cy P0 q z tl xx I J A B none xx I J A2 B := by
  refine C_start rfl (Nat.le_of_ble_eq_true rfl) ?_
  intro p e s m args below meth c H locs C hI ls hl
  have hl : lv_has ls 4 [(0, .ref (q 3)), (1, .int x1)] := hl
  rw [sX2_mend] at hs
  refine lv_iconst (v := 0) C.1 C.2.1 dX2_mend_0 (by decide) ?_
  refine lv_istore_n (lv' := [(2, .int (0 : Int32)), (0, .ref (q 3)), (1, .int x1)]) C.1 C.2.1 dX2_mend_1 rfl hl (by decide) rfl (fun ls hl => ?_)
  have KL_2 : ∀ (n : Nat) (x1 : Int32) (x2 : Int32) (I : Nat → Int32) (J : Nat → Int64) (A : Nat → Nat → Int32) (B : Nat → Nat → Int64) (o : (Nat → Nat → Int32)) (Q : State → Prop) (H : Heap) (locs : List Loc) (ls : Array Slot), lX2_mend_2 n x1 x2 I J A B = some o → CI D cy s P0 s.heap H locs q z tl xx I J A B → lv_has ls 4 [(0, .ref (q 3)), (1, .int x1), (2, .int x2)] → (∀ (A_0 : Nat → Nat → Int32) (H : Heap) (locs : List Loc) (ls : Array Slot), o = A_0 → CI D cy s P0 s.heap H locs q z tl xx I J A_0 B → lv_has ls 4 [] → W p l e (rmL 1) s m args below meth c H locs 0 0 Q (F0 m 73 ls [])) → W p l e (rmL 1) s m args below meth c H locs 0 0 Q (F0 m 2 ls []) := by
    intro n; induction n with
    | zero => intro x1 x2 I J A B o Q H locs ls hs; rw [lX2_mend_2] at hs; cases hs
    | succ n ih =>
      intro x1 x2 I J A B o Q H locs ls hs hI hl kk0
      rw [lX2_mend_2] at hs
      refine lv_iload_n C.1 C.2.1 dX2_mend_2 rfl (lv_at hl 2 rfl) ?_
      refine lv_aload_n C.1 C.2.1 dX2_mend_3 rfl (lv_at hl 0 rfl) ?_
      refine cg_X2_73 C hI dX2_mend_4 ?_
      refine lv_icmp_ge (tgt := 73) C.1 C.2.1 dX2_mend_7 (by decide) (fun cn => ?_) (fun cn => ?_)
      · have hs := if_t cn hs
        have eo := (Option.some.inj hs).symm
        exact kk0 _ _ _ _ eo hI (lv_sub hl [] rfl)
      · have hs := if_f cn hs
        refine lv_iload_n C.1 C.2.1 dX2_mend_10 rfl (lv_at hl 1 rfl) ?_
        refine lv_iload_n C.1 C.2.1 dX2_mend_11 rfl (lv_at hl 2 rfl) ?_
        refine lv_iushr (v := ushr _ _) C.1 C.2.1 dX2_mend_12 rfl ?_
        refine lv_iconst (v := 1) C.1 C.2.1 dX2_mend_13 (by decide) ?_
        refine lv_iand C.1 C.2.1 dX2_mend_14 ?_
        obtain ⟨v_23, ev_23, hs⟩ := gv_ex hs
        have KP_23 : W p l e (rmL 1) s m args below meth c H locs 0 0 Q (F0 m 23 ls [.int v_23]) := by
          refine lv_istore_n (lv' := [(3, .int v_23), (0, .ref (q 3)), (1, .int x1), (2, .int x2)]) C.1 C.2.1 dX2_mend_23 rfl hl (by decide) rfl (fun ls hl => ?_)
          refine lv_aload_n C.1 C.2.1 dX2_mend_24 rfl (lv_at hl 1 rfl) ?_
          refine cg_X2_71 C hI dX2_mend_25 ?_
          refine cg_X2_51 C hI dX2_mend_28 ?_
          refine lv_aload_n C.1 C.2.1 dX2_mend_31 rfl (lv_at hl 1 rfl) ?_
          refine cg_X2_72 C hI dX2_mend_32 ?_
          refine lv_iload_n C.1 C.2.1 dX2_mend_35 rfl (lv_at hl 3 rfl) ?_
          obtain ⟨hk, hs⟩ := ck_e hs
          refine ca_72 C hI hk dX2_mend_36 ?_
          refine lv_iload_n C.1 C.2.1 dX2_mend_37 rfl (lv_at hl 0 rfl) ?_
          refine lv_if_eq (tgt := 53) C.1 C.2.1 dX2_mend_38 (by decide) (fun cn => ?_) (fun cn => ?_)
          · have hs := if_t cn hs
            refine lv_aload_n C.1 C.2.1 dX2_mend_53 rfl (lv_at hl 1 rfl) ?_
            refine cg_X2_70 C hI dX2_mend_54 ?_
            refine lv_aload_n C.1 C.2.1 dX2_mend_57 rfl (lv_at hl 1 rfl) ?_
            refine cg_X2_72 C hI dX2_mend_58 ?_
            refine lv_iload_n C.1 C.2.1 dX2_mend_61 rfl (lv_at hl 3 rfl) ?_
            obtain ⟨hk, hs⟩ := ck_e hs
            refine ca_72 C hI hk dX2_mend_62 ?_
            obtain ⟨r_63, hc, hs⟩ := bd_e hs
            refine C_call C hI (kX4_holdOf l D cy P0 q z tl xx _ _ _ _ _ _ hc) (rv_X4 hI) ml_X2_101 im_X4_holdOf se_X4_holdOf ini_X4 co_X4_holdOf hyX4_holdOf rfl ⟨by decide, by decide⟩ hl.1 rfl (Nat.le_of_ble_eq_true rfl) dX2_mend_63 (fun H locs hI => ?_)
            obtain ⟨hk, hs⟩ := ck_e hs
            refine cs_51 C hI hk dX2_mend_66 (fun H locs hI => ?_)
            have hs := gv_be hs
            obtain ⟨x2_67, ex2_67⟩ : ∃ y : Int32, y = (x2 + 1) := ⟨_, rfl⟩
            have hs := gv_at ex2_67 hs
            refine lv_iinc (v := x2_67) (lv' := [(2, .int x2_67), (3, .int v_23), (0, .ref (q 3)), (1, .int x1)]) C.1 C.2.1 dX2_mend_67 hl (k := 3) rfl (by rw [ex2_67]; rfl) (by decide) rfl (fun ls hl => ?_)
            refine lv_goto (tgt := 2) C.1 C.2.1 dX2_mend_70 (by decide) ?_
            exact ih _ _ _ _ _ _ _ _ _ _ _ hs hI (lv_sub hl [2, 3, 0] rfl) kk0
          · have hs := if_f cn hs
            refine lv_aload_n C.1 C.2.1 dX2_mend_41 rfl (lv_at hl 1 rfl) ?_
            refine cg_X2_70 C hI dX2_mend_42 ?_
            refine cg_X2_15 C hI dX2_mend_45 ?_
            refine lv_iconst (v := 0) C.1 C.2.1 dX2_mend_48 (by decide) ?_
            refine ca_15 C hI (by decide) dX2_mend_49 ?_
            refine lv_goto (tgt := 66) C.1 C.2.1 dX2_mend_50 (by decide) ?_
            obtain ⟨hk, hs⟩ := ck_e hs
            refine cs_51 C hI hk dX2_mend_66 (fun H locs hI => ?_)
            have hs := gv_be hs
            obtain ⟨x2_67, ex2_67⟩ : ∃ y : Int32, y = (x2 + 1) := ⟨_, rfl⟩
            have hs := gv_at ex2_67 hs
            refine lv_iinc (v := x2_67) (lv' := [(2, .int x2_67), (3, .int v_23), (0, .ref (q 3)), (1, .int x1)]) C.1 C.2.1 dX2_mend_67 hl (k := 3) rfl (by rw [ex2_67]; rfl) (by decide) rfl (fun ls hl => ?_)
            refine lv_goto (tgt := 2) C.1 C.2.1 dX2_mend_70 (by decide) ?_
            exact ih _ _ _ _ _ _ _ _ _ _ _ hs hI (lv_sub hl [2, 3, 0] rfl) kk0
        refine lv_if_eq (tgt := 22) C.1 C.2.1 dX2_mend_15 (by decide) (fun cn => ?_) (fun cn => ?_)
        · have ev_23 := if_t' cn ev_23
          refine lv_iconst (v := 0) C.1 C.2.1 dX2_mend_22 (by decide) ?_
          subst ev_23
          exact KP_23
        · have ev_23 := if_f' cn ev_23
          refine lv_iconst (v := 1) C.1 C.2.1 dX2_mend_18 (by decide) ?_
          refine lv_goto (tgt := 23) C.1 C.2.1 dX2_mend_19 (by decide) ?_
          subst ev_23
          exact KP_23
  obtain ⟨A_L, hL, hs⟩ := bd_e hs
  refine KL_2 FU _ _ _ _ _ _ _ _ _ _ _ hL hI (lv_sub hl [1, 2, 0] rfl) (fun z0 H locs ls eo hI hl => ?_)
  subst eo
  obtain rfl := Option.some.inj hs
  exact C_vret C hI dX2_mend_73

def lX2_nextWish_4 : Nat → Int32 → Int32 → Int32 → (Nat → Int32) → (Nat → Int64) → (Nat → Nat → Int32) → (Nat → Nat → Int64) → Option (Int32)
  | 0, _, _, _, _, _, _, _ => none
  | n + 1, x1, x2, x3, I, J, A, B =>
    if (I 73) ≤ x3 then
    (some x2)
    else
    gv (if ((ushr x1 x3) &&& (1 : Int32)) = 0 then (1 : Int32) else (0 : Int32)) fun v_25 =>
    if v_25 = 0 then
    (gv (x3 + 1) fun x3_63 =>
    lX2_nextWish_4 n x1 x2 x3_63 I J A B)
    else
    if x2 = (-1 : Int32) then
    (gv (x3 + 1) fun x3_63 =>
    lX2_nextWish_4 n x1 x3 x3_63 I J A B)
    else
    ck (inB (x1 ||| ((1 : Int32) <<< (x3 &&& 31))) 512) <|
    ck (inB (x1 ||| ((1 : Int32) <<< (x2 &&& 31))) 512) <|
    if 0 ≤ (lg_cmp (B 76 (ix (x1 ||| ((1 : Int32) <<< (x3 &&& 31))))) (B 76 (ix (x1 ||| ((1 : Int32) <<< (x2 &&& 31)))))) then
    (gv (x3 + 1) fun x3_63 =>
    lX2_nextWish_4 n x1 x2 x3_63 I J A B)
    else
    gv (x3 + 1) fun x3_63 =>
    lX2_nextWish_4 n x1 x3 x3_63 I J A B
def sX2_nextWish (x1 : Int32) (I : Nat → Int32) (J : Nat → Int64) (A : Nat → Nat → Int32) (B : Nat → Nat → Int64) : Option ((Int32)) :=
(lX2_nextWish_4 FU x1 (-1 : Int32) (0 : Int32) I J A B).bind fun x2_4 =>
some (if x2_4 < (0 : Int32) then (0 : Int32) else x2_4)
set_option maxRecDepth 100000 in
set_option maxHeartbeats 8000000 in
theorem kX2_nextWish (l : Launch) (D : va_G) (cy : Nat → ClassId) (P0 : Nat → Prop) (q z : Nat → Nat) (tl : va_W) (xx : (Nat → Option Nat) × (Nat → Option Nat) × Nat) (x1 : Int32) (I : Nat → Int32) (J : Nat → Int64) (A : Nat → Nat → Int32) (B : Nat → Nat → Int64) (r : Int32) (hs : sX2_nextWish x1 I J A B = some r) : McC l yX2_nextWish cX2_nextWish 5 (some .int) 1 [.ref (q 3), .int x1] D cy P0 q z tl xx I J A B (some (.int r)) xx I J A B := by
  refine C_start rfl (Nat.le_of_ble_eq_true rfl) ?_
  intro p e s m args below meth c H locs C hI ls hl
  have hl : lv_has ls 5 [(0, .ref (q 3)), (1, .int x1)] := hl
  rw [sX2_nextWish] at hs
  refine lv_iconst (v := -1) C.1 C.2.1 dX2_nextWish_0 (by decide) ?_
  refine lv_istore_n (lv' := [(2, .int (-1 : Int32)), (0, .ref (q 3)), (1, .int x1)]) C.1 C.2.1 dX2_nextWish_1 rfl hl (by decide) rfl (fun ls hl => ?_)
  refine lv_iconst (v := 0) C.1 C.2.1 dX2_nextWish_2 (by decide) ?_
  refine lv_istore_n (lv' := [(3, .int (0 : Int32)), (2, .int (-1 : Int32)), (0, .ref (q 3)), (1, .int x1)]) C.1 C.2.1 dX2_nextWish_3 rfl hl (by decide) rfl (fun ls hl => ?_)
  have KL_4 : ∀ (n : Nat) (x1 : Int32) (x2 : Int32) (x3 : Int32) (I : Nat → Int32) (J : Nat → Int64) (A : Nat → Nat → Int32) (B : Nat → Nat → Int64) (o : Int32) (Q : State → Prop) (H : Heap) (locs : List Loc) (ls : Array Slot), lX2_nextWish_4 n x1 x2 x3 I J A B = some o → CI D cy s P0 s.heap H locs q z tl xx I J A B → lv_has ls 5 [(0, .ref (q 3)), (1, .int x1), (2, .int x2), (3, .int x3)] → (∀ (o2_0 : Int32) (H : Heap) (locs : List Loc) (ls : Array Slot), o = o2_0 → CI D cy s P0 s.heap H locs q z tl xx I J A B → lv_has ls 5 [(2, .int o2_0)] → W p l e (rmL 1) s m args below meth c H locs 0 0 Q (F0 m 69 ls [])) → W p l e (rmL 1) s m args below meth c H locs 0 0 Q (F0 m 4 ls []) := by
    intro n; induction n with
    | zero => intro x1 x2 x3 I J A B o Q H locs ls hs; rw [lX2_nextWish_4] at hs; cases hs
    | succ n ih =>
      intro x1 x2 x3 I J A B o Q H locs ls hs hI hl kk0
      rw [lX2_nextWish_4] at hs
      refine lv_iload_n C.1 C.2.1 dX2_nextWish_4 rfl (lv_at hl 3 rfl) ?_
      refine lv_aload_n C.1 C.2.1 dX2_nextWish_5 rfl (lv_at hl 0 rfl) ?_
      refine cg_X2_73 C hI dX2_nextWish_6 ?_
      refine lv_icmp_ge (tgt := 69) C.1 C.2.1 dX2_nextWish_9 (by decide) (fun cn => ?_) (fun cn => ?_)
      · have hs := if_t cn hs
        have eo := (Option.some.inj hs).symm
        exact kk0 _ _ _ _ eo hI (lv_sub hl [2] rfl)
      · have hs := if_f cn hs
        refine lv_iload_n C.1 C.2.1 dX2_nextWish_12 rfl (lv_at hl 1 rfl) ?_
        refine lv_iload_n C.1 C.2.1 dX2_nextWish_13 rfl (lv_at hl 3 rfl) ?_
        refine lv_iushr (v := ushr _ _) C.1 C.2.1 dX2_nextWish_14 rfl ?_
        refine lv_iconst (v := 1) C.1 C.2.1 dX2_nextWish_15 (by decide) ?_
        refine lv_iand C.1 C.2.1 dX2_nextWish_16 ?_
        obtain ⟨v_25, ev_25, hs⟩ := gv_ex hs
        have KP_25 : W p l e (rmL 1) s m args below meth c H locs 0 0 Q (F0 m 25 ls [.int v_25]) := by
          refine lv_istore (lv' := [(4, .int v_25), (0, .ref (q 3)), (1, .int x1), (2, .int x2), (3, .int x3)]) C.1 C.2.1 dX2_nextWish_25 hl (by decide) rfl (fun ls hl => ?_)
          refine lv_iload C.1 C.2.1 dX2_nextWish_27 (lv_at hl 0 rfl) ?_
          refine lv_if_eq (tgt := 63) C.1 C.2.1 dX2_nextWish_29 (by decide) (fun cn => ?_) (fun cn => ?_)
          · have hs := if_t cn hs
            obtain ⟨x3_63, ex3_63⟩ : ∃ y : Int32, y = (x3 + 1) := ⟨_, rfl⟩
            have hs := gv_at ex3_63 hs
            refine lv_iinc (v := x3_63) (lv' := [(3, .int x3_63), (4, .int v_25), (0, .ref (q 3)), (1, .int x1), (2, .int x2)]) C.1 C.2.1 dX2_nextWish_63 hl (k := 4) rfl (by rw [ex3_63]; rfl) (by decide) rfl (fun ls hl => ?_)
            refine lv_goto (tgt := 4) C.1 C.2.1 dX2_nextWish_66 (by decide) ?_
            exact ih _ _ _ _ _ _ _ _ _ _ _ _ hs hI (lv_sub hl [2, 3, 4, 0] rfl) kk0
          · have hs := if_f cn hs
            refine lv_iload_n C.1 C.2.1 dX2_nextWish_32 rfl (lv_at hl 3 rfl) ?_
            refine lv_iconst (v := -1) C.1 C.2.1 dX2_nextWish_33 (by decide) ?_
            refine lv_icmp_eq (tgt := 61) C.1 C.2.1 dX2_nextWish_34 (by decide) (fun cn => ?_) (fun cn => ?_)
            · have hs := if_t cn hs
              refine lv_iload_n C.1 C.2.1 dX2_nextWish_61 rfl (lv_at hl 4 rfl) ?_
              refine lv_istore_n (lv' := [(2, .int x3), (4, .int v_25), (0, .ref (q 3)), (1, .int x1), (3, .int x3)]) C.1 C.2.1 dX2_nextWish_62 rfl hl (by decide) rfl (fun ls hl => ?_)
              obtain ⟨x3_63, ex3_63⟩ : ∃ y : Int32, y = (x3 + 1) := ⟨_, rfl⟩
              have hs := gv_at ex3_63 hs
              refine lv_iinc (v := x3_63) (lv' := [(3, .int x3_63), (2, .int x3), (4, .int v_25), (0, .ref (q 3)), (1, .int x1)]) C.1 C.2.1 dX2_nextWish_63 hl (k := 4) rfl (by rw [ex3_63]; rfl) (by decide) rfl (fun ls hl => ?_)
              refine lv_goto (tgt := 4) C.1 C.2.1 dX2_nextWish_66 (by decide) ?_
              exact ih _ _ _ _ _ _ _ _ _ _ _ _ hs hI (lv_sub hl [3, 4, 1, 0] rfl) kk0
            · have hs := if_f cn hs
              refine lv_aload_n C.1 C.2.1 dX2_nextWish_37 rfl (lv_at hl 1 rfl) ?_
              refine cg_X2_76 C hI dX2_nextWish_38 ?_
              refine lv_iload_n C.1 C.2.1 dX2_nextWish_41 rfl (lv_at hl 2 rfl) ?_
              refine lv_iconst (v := 1) C.1 C.2.1 dX2_nextWish_42 (by decide) ?_
              refine lv_iload_n C.1 C.2.1 dX2_nextWish_43 rfl (lv_at hl 4 rfl) ?_
              refine lv_ishl C.1 C.2.1 dX2_nextWish_44 ?_
              refine lv_ior C.1 C.2.1 dX2_nextWish_45 ?_
              obtain ⟨hk, hs⟩ := ck_e hs
              refine ca_76 C hI hk dX2_nextWish_46 ?_
              refine lv_aload_n C.1 C.2.1 dX2_nextWish_47 rfl (lv_at hl 1 rfl) ?_
              refine cg_X2_76 C hI dX2_nextWish_48 ?_
              refine lv_iload_n C.1 C.2.1 dX2_nextWish_51 rfl (lv_at hl 2 rfl) ?_
              refine lv_iconst (v := 1) C.1 C.2.1 dX2_nextWish_52 (by decide) ?_
              refine lv_iload_n C.1 C.2.1 dX2_nextWish_53 rfl (lv_at hl 3 rfl) ?_
              refine lv_ishl C.1 C.2.1 dX2_nextWish_54 ?_
              refine lv_ior C.1 C.2.1 dX2_nextWish_55 ?_
              obtain ⟨hk, hs⟩ := ck_e hs
              refine ca_76 C hI hk dX2_nextWish_56 ?_
              refine W.lcmp C.1 C.2.1 dX2_nextWish_57 ?_
              refine lv_if_ge (tgt := 63) C.1 C.2.1 dX2_nextWish_58 (by decide) (fun cn => ?_) (fun cn => ?_)
              · have hs := if_t cn hs
                obtain ⟨x3_63, ex3_63⟩ : ∃ y : Int32, y = (x3 + 1) := ⟨_, rfl⟩
                have hs := gv_at ex3_63 hs
                refine lv_iinc (v := x3_63) (lv' := [(3, .int x3_63), (4, .int v_25), (0, .ref (q 3)), (1, .int x1), (2, .int x2)]) C.1 C.2.1 dX2_nextWish_63 hl (k := 4) rfl (by rw [ex3_63]; rfl) (by decide) rfl (fun ls hl => ?_)
                refine lv_goto (tgt := 4) C.1 C.2.1 dX2_nextWish_66 (by decide) ?_
                exact ih _ _ _ _ _ _ _ _ _ _ _ _ hs hI (lv_sub hl [2, 3, 4, 0] rfl) kk0
              · have hs := if_f cn hs
                refine lv_iload_n C.1 C.2.1 dX2_nextWish_61 rfl (lv_at hl 4 rfl) ?_
                refine lv_istore_n (lv' := [(2, .int x3), (4, .int v_25), (0, .ref (q 3)), (1, .int x1), (3, .int x3)]) C.1 C.2.1 dX2_nextWish_62 rfl hl (by decide) rfl (fun ls hl => ?_)
                obtain ⟨x3_63, ex3_63⟩ : ∃ y : Int32, y = (x3 + 1) := ⟨_, rfl⟩
                have hs := gv_at ex3_63 hs
                refine lv_iinc (v := x3_63) (lv' := [(3, .int x3_63), (2, .int x3), (4, .int v_25), (0, .ref (q 3)), (1, .int x1)]) C.1 C.2.1 dX2_nextWish_63 hl (k := 4) rfl (by rw [ex3_63]; rfl) (by decide) rfl (fun ls hl => ?_)
                refine lv_goto (tgt := 4) C.1 C.2.1 dX2_nextWish_66 (by decide) ?_
                exact ih _ _ _ _ _ _ _ _ _ _ _ _ hs hI (lv_sub hl [3, 4, 1, 0] rfl) kk0
        refine lv_if_ne (tgt := 24) C.1 C.2.1 dX2_nextWish_17 (by decide) (fun cn => ?_) (fun cn => ?_)
        · have ev_25 := if_f' cn ev_25
          refine lv_iconst (v := 0) C.1 C.2.1 dX2_nextWish_24 (by decide) ?_
          subst ev_25
          exact KP_25
        · have ev_25 := if_t' cn ev_25
          refine lv_iconst (v := 1) C.1 C.2.1 dX2_nextWish_20 (by decide) ?_
          refine lv_goto (tgt := 25) C.1 C.2.1 dX2_nextWish_21 (by decide) ?_
          subst ev_25
          exact KP_25
  obtain ⟨x2_4, hL, hs⟩ := bd_e hs
  refine KL_4 FU _ _ _ _ _ _ _ _ _ _ _ _ hL hI (lv_sub hl [2, 3, 1, 0] rfl) (fun z0 H locs ls eo hI hl => ?_)
  subst eo
  refine lv_iload_n C.1 C.2.1 dX2_nextWish_69 rfl (lv_at hl 0 rfl) ?_
  refine lv_iconst (v := 0) C.1 C.2.1 dX2_nextWish_70 (by decide) ?_
  refine c_max C hl.1 ml_X2_107 (by decide) (Nat.le_of_ble_eq_true rfl) dX2_nextWish_71 ?_
  obtain rfl := Option.some.inj hs
  exact C_iret C hI dX2_nextWish_74

def lX3_takeNumber_5 : Nat → (Nat → Int32) → (Nat → Int64) → (Nat → Nat → Int32) → (Nat → Nat → Int64) → Option ((Nat → Int32))
  | 0, _, _, _, _ => none
  | n + 1, I, J, A, B =>
    if (I 82) ≤ (I 83) then
    (some I)
    else
    ck (inB (I 83) 400) <|
    (sX3_isDigit (A 6 (ix (I 83)))).bind fun r_25 =>
    if r_25 = 0 then
    (some I)
    else
    ck (inB (I 83) 400) <|
    gv (upd I 85 (if (100001 : Int32) < ((((I 85) * (10 : Int32)) + (A 6 (ix (I 83)))) - (48 : Int32)) then (100001 : Int32) else ((((I 85) * (10 : Int32)) + (A 6 (ix (I 83)))) - (48 : Int32)))) fun I =>
    gv (upd I 83 ((I 83) + (1 : Int32))) fun I =>
    lX3_takeNumber_5 n I J A B
def sX3_takeNumber (I : Nat → Int32) (J : Nat → Int64) (A : Nat → Nat → Int32) (B : Nat → Nat → Int64) : Option ((Nat → Int32)) :=
gv (upd I 85 (0 : Int32)) fun I =>
(lX3_takeNumber_5 FU I J A B).bind fun I =>
gv (if (I 85) ≤ (100000 : Int32) then (-2 : Int32) else (-3 : Int32)) fun v_90 =>
gv (upd I 84 v_90) fun I =>
some I
set_option maxRecDepth 100000 in
set_option maxHeartbeats 8000000 in
theorem kX3_takeNumber (l : Launch) (D : va_G) (cy : Nat → ClassId) (P0 : Nat → Prop) (q z : Nat → Nat) (tl : va_W) (xx : (Nat → Option Nat) × (Nat → Option Nat) × Nat) (I : Nat → Int32) (J : Nat → Int64) (A : Nat → Nat → Int32) (B : Nat → Nat → Int64) (I2 : Nat → Int32) (hs : sX3_takeNumber I J A B = some I2) : McC l yX3_takeNumber cX3_takeNumber 1 none 1 [.ref (q 4)] D cy P0 q z tl (xx.1, xx.2.1, q 6) I J A B none (xx.1, xx.2.1, q 6) I2 J A B := by
  refine C_start rfl (Nat.le_of_ble_eq_true rfl) ?_
  intro p e s m args below meth c H locs C hI ls hl
  have hl : lv_has ls 1 [(0, .ref (q 4))] := hl
  rw [sX3_takeNumber] at hs
  refine lv_aload_n C.1 C.2.1 dX3_takeNumber_0 rfl (lv_at hl 0 rfl) ?_
  refine lv_iconst (v := 0) C.1 C.2.1 dX3_takeNumber_1 (by decide) ?_
  refine cp_X3_85 C hI dX3_takeNumber_2 (fun H locs hI => ?_)
  have hs := gv_be hs
  have KL_5 : ∀ (n : Nat) (I : Nat → Int32) (J : Nat → Int64) (A : Nat → Nat → Int32) (B : Nat → Nat → Int64) (o : (Nat → Int32)) (Q : State → Prop) (H : Heap) (locs : List Loc) (ls : Array Slot), lX3_takeNumber_5 n I J A B = some o → CI D cy s P0 s.heap H locs q z tl (xx.1, xx.2.1, q 6) I J A B → lv_has ls 1 [(0, .ref (q 4))] → (∀ (I_0 : Nat → Int32) (H : Heap) (locs : List Loc) (ls : Array Slot), o = I_0 → CI D cy s P0 s.heap H locs q z tl (xx.1, xx.2.1, q 6) I_0 J A B → lv_has ls 1 [(0, .ref (q 4))] → W p l e (rmL 1) s m args below meth c H locs 0 0 Q (F0 m 73 ls [])) → W p l e (rmL 1) s m args below meth c H locs 0 0 Q (F0 m 5 ls []) := by
    intro n; induction n with
    | zero => intro I J A B o Q H locs ls hs; rw [lX3_takeNumber_5] at hs; cases hs
    | succ n ih =>
      intro I J A B o Q H locs ls hs hI hl kk0
      rw [lX3_takeNumber_5] at hs
      refine lv_aload_n C.1 C.2.1 dX3_takeNumber_5 rfl (lv_at hl 0 rfl) ?_
      refine cg_X3_83 C hI dX3_takeNumber_6 ?_
      refine lv_aload_n C.1 C.2.1 dX3_takeNumber_9 rfl (lv_at hl 0 rfl) ?_
      refine cg_X3_82 C hI dX3_takeNumber_10 ?_
      refine lv_icmp_ge (tgt := 73) C.1 C.2.1 dX3_takeNumber_13 (by decide) (fun cn => ?_) (fun cn => ?_)
      · have hs := if_t cn hs
        have eo := (Option.some.inj hs).symm
        exact kk0 _ _ _ _ eo hI (lv_sub hl [0] rfl)
      · have hs := if_f cn hs
        refine lv_aload_n C.1 C.2.1 dX3_takeNumber_16 rfl (lv_at hl 0 rfl) ?_
        refine cg_X3_81 C hI dX3_takeNumber_17 ?_
        refine lv_aload_n C.1 C.2.1 dX3_takeNumber_20 rfl (lv_at hl 0 rfl) ?_
        refine cg_X3_83 C hI dX3_takeNumber_21 ?_
        obtain ⟨hk, hs⟩ := ck_e hs
        refine ca_6 C hI hk dX3_takeNumber_24 ?_
        obtain ⟨r_25, hc, hs⟩ := bd_e hs
        refine S_call (h := 1) C (kX3_isDigit l _ _ hc) ml_X3_77 st_X3_isDigit ini_X3 co_X3_isDigit hyX3_isDigit rfl ⟨by decide, by decide⟩ hl.1 rfl (Nat.le_of_ble_eq_true rfl) dX3_takeNumber_25 ⟨Nat.le_refl 0, Nat.le_refl 0, Nat.le_refl _, Nat.le_refl _⟩ ?_
        refine lv_if_eq (tgt := 73) C.1 C.2.1 dX3_takeNumber_28 (by decide) (fun cn => ?_) (fun cn => ?_)
        · have hs := if_t cn hs
          have eo := (Option.some.inj hs).symm
          exact kk0 _ _ _ _ eo hI (lv_sub hl [0] rfl)
        · have hs := if_f cn hs
          refine lv_aload_n C.1 C.2.1 dX3_takeNumber_31 rfl (lv_at hl 0 rfl) ?_
          refine lv_aload_n C.1 C.2.1 dX3_takeNumber_32 rfl (lv_at hl 0 rfl) ?_
          refine cg_X3_85 C hI dX3_takeNumber_33 ?_
          refine lv_bipush (v := 10) C.1 C.2.1 dX3_takeNumber_36 (by decide) ?_
          refine lv_imul C.1 C.2.1 dX3_takeNumber_38 ?_
          refine lv_aload_n C.1 C.2.1 dX3_takeNumber_39 rfl (lv_at hl 0 rfl) ?_
          refine cg_X3_81 C hI dX3_takeNumber_40 ?_
          refine lv_aload_n C.1 C.2.1 dX3_takeNumber_43 rfl (lv_at hl 0 rfl) ?_
          refine cg_X3_83 C hI dX3_takeNumber_44 ?_
          obtain ⟨hk, hs⟩ := ck_e hs
          refine ca_6 C hI hk dX3_takeNumber_47 ?_
          refine lv_iadd C.1 C.2.1 dX3_takeNumber_48 ?_
          refine lv_bipush (v := 48) C.1 C.2.1 dX3_takeNumber_49 (by decide) ?_
          refine lv_isub C.1 C.2.1 dX3_takeNumber_51 ?_
          refine lv_ldc C.1 C.2.1 C.2.2.2.1 (C.2.2.2.2.1 _ kc_X3_94) dX3_takeNumber_52 ?_
          refine c_min C hl.1 ml_X3_48 (by decide) (Nat.le_of_ble_eq_true rfl) dX3_takeNumber_54 ?_
          refine cp_X3_85 C hI dX3_takeNumber_57 (fun H locs hI => ?_)
          have hs := gv_be hs
          refine lv_aload_n C.1 C.2.1 dX3_takeNumber_60 rfl (lv_at hl 0 rfl) ?_
          refine lv_dup C.1 C.2.1 dX3_takeNumber_61 rfl ?_
          refine cg_X3_83 C hI dX3_takeNumber_62 ?_
          refine lv_iconst (v := 1) C.1 C.2.1 dX3_takeNumber_65 (by decide) ?_
          refine lv_iadd C.1 C.2.1 dX3_takeNumber_66 ?_
          refine cp_X3_83 C hI dX3_takeNumber_67 (fun H locs hI => ?_)
          have hs := gv_be hs
          refine lv_goto (tgt := 5) C.1 C.2.1 dX3_takeNumber_70 (by decide) ?_
          exact ih _ _ _ _ _ _ _ _ _ hs hI (lv_sub hl [0] rfl) kk0
  obtain ⟨I_L, hL, hs⟩ := bd_e hs
  refine KL_5 FU _ _ _ _ _ _ _ _ _ hL hI (lv_sub hl [0] rfl) (fun z0 H locs ls eo hI hl => ?_)
  subst eo
  refine lv_aload_n C.1 C.2.1 dX3_takeNumber_73 rfl (lv_at hl 0 rfl) ?_
  refine lv_aload_n C.1 C.2.1 dX3_takeNumber_74 rfl (lv_at hl 0 rfl) ?_
  refine cg_X3_85 C hI dX3_takeNumber_75 ?_
  refine lv_ldc C.1 C.2.1 C.2.2.2.1 (C.2.2.2.2.1 _ kc_X3_95) dX3_takeNumber_78 ?_
  obtain ⟨v_90, ev_90, hs⟩ := gv_ex hs
  have KP_90 : W p l e (rmL 1) s m args below meth c H locs 0 0 (MQ below (cQ D cy P0 q tl none (xx.1, xx.2.1, q 6) I2 J A B) args s 0 0 P0) (F0 m 90 ls [.int v_90, .ref (q 4)]) := by
    refine cp_X3_84 C hI dX3_takeNumber_90 (fun H locs hI => ?_)
    have hs := gv_be hs
    obtain rfl := Option.some.inj hs
    exact C_vret C hI dX3_takeNumber_93
  refine lv_icmp_le (tgt := 88) C.1 C.2.1 dX3_takeNumber_80 (by decide) (fun cn => ?_) (fun cn => ?_)
  · have ev_90 := if_t' cn ev_90
    refine lv_bipush (v := -2) C.1 C.2.1 dX3_takeNumber_88 (by decide) ?_
    subst ev_90
    exact KP_90
  · have ev_90 := if_f' cn ev_90
    refine lv_bipush (v := -3) C.1 C.2.1 dX3_takeNumber_83 (by decide) ?_
    refine lv_goto (tgt := 90) C.1 C.2.1 dX3_takeNumber_85 (by decide) ?_
    subst ev_90
    exact KP_90

def sX4_isOnFace (x1 : Int32) (I : Nat → Int32) (J : Nat → Int64) (A : Nat → Nat → Int32) (B : Nat → Nat → Int64) : Option ((Int32)) :=
(sX5_cell 0 x1 (0 : Int32) I J A B).bind fun r_6 =>
gv (if (r_6 - r_6 / (2 : Int32) * (2 : Int32)) = 0 then (1 : Int32) else (0 : Int32)) fun v_19 =>
some v_19
set_option maxRecDepth 100000 in
set_option maxHeartbeats 8000000 in
theorem kX4_isOnFace (l : Launch) (D : va_G) (cy : Nat → ClassId) (P0 : Nat → Prop) (q z : Nat → Nat) (tl : va_W) (xx : (Nat → Option Nat) × (Nat → Option Nat) × Nat) (x1 : Int32) (I : Nat → Int32) (J : Nat → Int64) (A : Nat → Nat → Int32) (B : Nat → Nat → Int64) (r : Int32) (hs : sX4_isOnFace x1 I J A B = some r) : McC l yX4_isOnFace cX4_isOnFace 2 (some .boolean) 1 [.ref (q 0), .int x1] D cy P0 q z tl xx I J A B (some (.int r)) xx I J A B := by
  refine C_start rfl (Nat.le_of_ble_eq_true rfl) ?_
  intro p e s m args below meth c H locs C hI ls hl
  have hl : lv_has ls 2 [(0, .ref (q 0)), (1, .int x1)] := hl
  rw [sX4_isOnFace] at hs
  refine lv_aload_n C.1 C.2.1 dX4_isOnFace_0 rfl (lv_at hl 0 rfl) ?_
  refine cg_X4_17 C hI dX4_isOnFace_1 ?_
  refine lv_iload_n C.1 C.2.1 dX4_isOnFace_4 rfl (lv_at hl 1 rfl) ?_
  refine lv_iconst (v := 0) C.1 C.2.1 dX4_isOnFace_5 (by decide) ?_
  obtain ⟨r_6, hc, hs⟩ := bd_e hs
  refine C_call C hI (kX5_cell l D cy P0 q z tl xx 0 (by decide) _ _ _ _ _ _ _ hc) (rv_X5 hI 0 (by decide)) ml_X4_83 im_X5_cell se_X5_cell ini_X5 co_X5_cell hyX5_cell rfl ⟨by decide, by decide⟩ hl.1 rfl (Nat.le_of_ble_eq_true rfl) dX4_isOnFace_6 (fun H locs hI => ?_)
  refine lv_iconst (v := 2) C.1 C.2.1 dX4_isOnFace_9 (by decide) ?_
  refine lv_irem C.1 C.2.1 dX4_isOnFace_10 (by decide) ?_
  obtain ⟨v_19, ev_19, hs⟩ := gv_ex hs
  have KP_19 : W p l e (rmL 1) s m args below meth c H locs 0 0 (MQ below (cQ D cy P0 q tl (some (.int r)) xx I J A B) args s 0 0 P0) (F0 m 19 ls [.int v_19]) := by
    obtain rfl := Option.some.inj hs
    exact C_zret C hI (isB_ev ev_19 (by (repeat' split) <;> decide)) dX4_isOnFace_19
  refine lv_if_ne (tgt := 18) C.1 C.2.1 dX4_isOnFace_11 (by decide) (fun cn => ?_) (fun cn => ?_)
  · have ev_19 := if_f' cn ev_19
    refine lv_iconst (v := 0) C.1 C.2.1 dX4_isOnFace_18 (by decide) ?_
    subst ev_19
    exact KP_19
  · have ev_19 := if_t' cn ev_19
    refine lv_iconst (v := 1) C.1 C.2.1 dX4_isOnFace_14 (by decide) ?_
    refine lv_goto (tgt := 19) C.1 C.2.1 dX4_isOnFace_15 (by decide) ?_
    subst ev_19
    exact KP_19

def lX4_yearOf_5 : Nat → Int32 → Int32 → Int32 → Int32 → (Nat → Int32) → (Nat → Int64) → (Nat → Nat → Int32) → (Nat → Nat → Int64) → Option (Int32)
  | 0, _, _, _, _, _, _, _, _ => none
  | n + 1, x1, x2, x3, x4, I, J, A, B =>
    if (I 32) ≤ x4 then
    (some x3)
    else
    gv ((ushr x1 (((2 : Int32) * x4) + (1 : Int32))) &&& (1 : Int32)) fun x5_27 =>
    gv (if (A 15 (ix (4 : Int32))) = 0 then x5_27 else ((ushr x1 ((2 : Int32) * x4)) &&& (1 : Int32))) fun v_51 =>
    (sX5_cell 0 x4 (2 : Int32) I J A B).bind fun r_61 =>
    gv (x3 + (r_61 * ((x5_27 * ((100 : Int32) - x2)) + (v_51 * x2)))) fun x3_78 =>
    gv (x4 + 1) fun x4_79 =>
    lX4_yearOf_5 n x1 x2 x3_78 x4_79 I J A B
def sX4_yearOf (x1 : Int32) (x2 : Int32) (I : Nat → Int32) (J : Nat → Int64) (A : Nat → Nat → Int32) (B : Nat → Nat → Int64) : Option ((Int32)) :=
(lX4_yearOf_5 FU x1 x2 (0 : Int32) (0 : Int32) I J A B).bind fun x3_5 =>
some x3_5
set_option maxRecDepth 100000 in
set_option maxHeartbeats 8000000 in
theorem kX4_yearOf (l : Launch) (D : va_G) (cy : Nat → ClassId) (P0 : Nat → Prop) (q z : Nat → Nat) (tl : va_W) (xx : (Nat → Option Nat) × (Nat → Option Nat) × Nat) (x1 : Int32) (x2 : Int32) (I : Nat → Int32) (J : Nat → Int64) (A : Nat → Nat → Int32) (B : Nat → Nat → Int64) (r : Int32) (hs : sX4_yearOf x1 x2 I J A B = some r) : McC l yX4_yearOf cX4_yearOf 7 (some .int) 1 [.ref (q 0), .int x1, .int x2] D cy P0 q z tl xx I J A B (some (.int r)) xx I J A B := by
  refine C_start rfl (Nat.le_of_ble_eq_true rfl) ?_
  intro p e s m args below meth c H locs C hI ls hl
  have hl : lv_has ls 7 [(0, .ref (q 0)), (1, .int x1), (2, .int x2)] := hl
  rw [sX4_yearOf] at hs
  refine lv_iconst (v := 0) C.1 C.2.1 dX4_yearOf_0 (by decide) ?_
  refine lv_istore_n (lv' := [(3, .int (0 : Int32)), (0, .ref (q 0)), (1, .int x1), (2, .int x2)]) C.1 C.2.1 dX4_yearOf_1 rfl hl (by decide) rfl (fun ls hl => ?_)
  refine lv_iconst (v := 0) C.1 C.2.1 dX4_yearOf_2 (by decide) ?_
  refine lv_istore (lv' := [(4, .int (0 : Int32)), (3, .int (0 : Int32)), (0, .ref (q 0)), (1, .int x1), (2, .int x2)]) C.1 C.2.1 dX4_yearOf_3 hl (by decide) rfl (fun ls hl => ?_)
  have KL_5 : ∀ (n : Nat) (x1 : Int32) (x2 : Int32) (x3 : Int32) (x4 : Int32) (I : Nat → Int32) (J : Nat → Int64) (A : Nat → Nat → Int32) (B : Nat → Nat → Int64) (o : Int32) (Q : State → Prop) (H : Heap) (locs : List Loc) (ls : Array Slot), lX4_yearOf_5 n x1 x2 x3 x4 I J A B = some o → CI D cy s P0 s.heap H locs q z tl xx I J A B → lv_has ls 7 [(0, .ref (q 0)), (1, .int x1), (2, .int x2), (3, .int x3), (4, .int x4)] → (∀ (o3_0 : Int32) (H : Heap) (locs : List Loc) (ls : Array Slot), o = o3_0 → CI D cy s P0 s.heap H locs q z tl xx I J A B → lv_has ls 7 [(3, .int o3_0)] → W p l e (rmL 1) s m args below meth c H locs 0 0 Q (F0 m 85 ls [])) → W p l e (rmL 1) s m args below meth c H locs 0 0 Q (F0 m 5 ls []) := by
    intro n; induction n with
    | zero => intro x1 x2 x3 x4 I J A B o Q H locs ls hs; rw [lX4_yearOf_5] at hs; cases hs
    | succ n ih =>
      intro x1 x2 x3 x4 I J A B o Q H locs ls hs hI hl kk0
      rw [lX4_yearOf_5] at hs
      refine lv_iload C.1 C.2.1 dX4_yearOf_5 (lv_at hl 4 rfl) ?_
      refine lv_aload_n C.1 C.2.1 dX4_yearOf_7 rfl (lv_at hl 0 rfl) ?_
      refine cg_X4_17 C hI dX4_yearOf_8 ?_
      refine cg_X4_32 C hI dX4_yearOf_11 ?_
      refine lv_icmp_ge (tgt := 85) C.1 C.2.1 dX4_yearOf_14 (by decide) (fun cn => ?_) (fun cn => ?_)
      · have hs := if_t cn hs
        have eo := (Option.some.inj hs).symm
        exact kk0 _ _ _ _ eo hI (lv_sub hl [3] rfl)
      · have hs := if_f cn hs
        refine lv_iload_n C.1 C.2.1 dX4_yearOf_17 rfl (lv_at hl 1 rfl) ?_
        refine lv_iconst (v := 2) C.1 C.2.1 dX4_yearOf_18 (by decide) ?_
        refine lv_iload C.1 C.2.1 dX4_yearOf_19 (lv_at hl 4 rfl) ?_
        refine lv_imul C.1 C.2.1 dX4_yearOf_21 ?_
        refine lv_iconst (v := 1) C.1 C.2.1 dX4_yearOf_22 (by decide) ?_
        refine lv_iadd C.1 C.2.1 dX4_yearOf_23 ?_
        refine lv_iushr (v := ushr _ _) C.1 C.2.1 dX4_yearOf_24 rfl ?_
        refine lv_iconst (v := 1) C.1 C.2.1 dX4_yearOf_25 (by decide) ?_
        refine lv_iand C.1 C.2.1 dX4_yearOf_26 ?_
        refine lv_topi (fun x5_27 ex5_27 => ?_)
        have hs := gv_at ex5_27 hs
        refine lv_istore (lv' := [(5, .int x5_27), (0, .ref (q 0)), (1, .int x1), (2, .int x2), (3, .int x3), (4, .int x4)]) C.1 C.2.1 dX4_yearOf_27 hl (by decide) rfl (fun ls hl => ?_)
        refine lv_aload_n C.1 C.2.1 dX4_yearOf_29 rfl (lv_at hl 1 rfl) ?_
        refine cg_X4_15 C hI dX4_yearOf_30 ?_
        refine lv_iconst (v := 4) C.1 C.2.1 dX4_yearOf_33 (by decide) ?_
        refine ca_15 C hI (by decide) dX4_yearOf_34 ?_
        obtain ⟨v_51, ev_51, hs⟩ := gv_ex hs
        have KP_51 : W p l e (rmL 1) s m args below meth c H locs 0 0 Q (F0 m 51 ls [.int v_51]) := by
          refine lv_istore (lv' := [(6, .int v_51), (5, .int x5_27), (0, .ref (q 0)), (1, .int x1), (2, .int x2), (3, .int x3), (4, .int x4)]) C.1 C.2.1 dX4_yearOf_51 hl (by decide) rfl (fun ls hl => ?_)
          refine lv_iload_n C.1 C.2.1 dX4_yearOf_53 rfl (lv_at hl 5 rfl) ?_
          refine lv_aload_n C.1 C.2.1 dX4_yearOf_54 rfl (lv_at hl 2 rfl) ?_
          refine cg_X4_17 C hI dX4_yearOf_55 ?_
          refine lv_iload C.1 C.2.1 dX4_yearOf_58 (lv_at hl 6 rfl) ?_
          refine lv_iconst (v := 2) C.1 C.2.1 dX4_yearOf_60 (by decide) ?_
          obtain ⟨r_61, hc, hs⟩ := bd_e hs
          refine C_call C hI (kX5_cell l D cy P0 q z tl xx 0 (by decide) _ _ _ _ _ _ _ hc) (rv_X5 hI 0 (by decide)) ml_X4_83 im_X5_cell se_X5_cell ini_X5 co_X5_cell hyX5_cell rfl ⟨by decide, by decide⟩ hl.1 rfl (Nat.le_of_ble_eq_true rfl) dX4_yearOf_61 (fun H locs hI => ?_)
          refine lv_iload C.1 C.2.1 dX4_yearOf_64 (lv_at hl 1 rfl) ?_
          refine lv_bipush (v := 100) C.1 C.2.1 dX4_yearOf_66 (by decide) ?_
          refine lv_iload_n C.1 C.2.1 dX4_yearOf_68 rfl (lv_at hl 4 rfl) ?_
          refine lv_isub C.1 C.2.1 dX4_yearOf_69 ?_
          refine lv_imul C.1 C.2.1 dX4_yearOf_70 ?_
          refine lv_iload C.1 C.2.1 dX4_yearOf_71 (lv_at hl 0 rfl) ?_
          refine lv_iload_n C.1 C.2.1 dX4_yearOf_73 rfl (lv_at hl 4 rfl) ?_
          refine lv_imul C.1 C.2.1 dX4_yearOf_74 ?_
          refine lv_iadd C.1 C.2.1 dX4_yearOf_75 ?_
          refine lv_imul C.1 C.2.1 dX4_yearOf_76 ?_
          refine lv_iadd C.1 C.2.1 dX4_yearOf_77 ?_
          refine lv_topi (fun x3_78 ex3_78 => ?_)
          have hs := gv_at ex3_78 hs
          refine lv_istore_n (lv' := [(3, .int x3_78), (6, .int v_51), (5, .int x5_27), (0, .ref (q 0)), (1, .int x1), (2, .int x2), (4, .int x4)]) C.1 C.2.1 dX4_yearOf_78 rfl hl (by decide) rfl (fun ls hl => ?_)
          obtain ⟨x4_79, ex4_79⟩ : ∃ y : Int32, y = (x4 + 1) := ⟨_, rfl⟩
          have hs := gv_at ex4_79 hs
          refine lv_iinc (v := x4_79) (lv' := [(4, .int x4_79), (3, .int x3_78), (6, .int v_51), (5, .int x5_27), (0, .ref (q 0)), (1, .int x1), (2, .int x2)]) C.1 C.2.1 dX4_yearOf_79 hl (k := 6) rfl (by rw [ex4_79]; rfl) (by decide) rfl (fun ls hl => ?_)
          refine lv_goto (tgt := 5) C.1 C.2.1 dX4_yearOf_82 (by decide) ?_
          exact ih _ _ _ _ _ _ _ _ _ _ _ _ _ hs hI (lv_sub hl [4, 5, 6, 1, 0] rfl) kk0
        refine lv_if_ne (tgt := 43) C.1 C.2.1 dX4_yearOf_35 (by decide) (fun cn => ?_) (fun cn => ?_)
        · have ev_51 := if_f' cn ev_51
          refine lv_iload_n C.1 C.2.1 dX4_yearOf_43 rfl (lv_at hl 2 rfl) ?_
          refine lv_iconst (v := 2) C.1 C.2.1 dX4_yearOf_44 (by decide) ?_
          refine lv_iload C.1 C.2.1 dX4_yearOf_45 (lv_at hl 5 rfl) ?_
          refine lv_imul C.1 C.2.1 dX4_yearOf_47 ?_
          refine lv_iushr (v := ushr _ _) C.1 C.2.1 dX4_yearOf_48 rfl ?_
          refine lv_iconst (v := 1) C.1 C.2.1 dX4_yearOf_49 (by decide) ?_
          refine lv_iand C.1 C.2.1 dX4_yearOf_50 ?_
          subst ev_51
          exact KP_51
        · have ev_51 := if_t' cn ev_51
          refine lv_iload C.1 C.2.1 dX4_yearOf_38 (lv_at hl 0 rfl) ?_
          refine lv_goto (tgt := 51) C.1 C.2.1 dX4_yearOf_40 (by decide) ?_
          subst ev_51
          exact KP_51
  obtain ⟨x3_5, hL, hs⟩ := bd_e hs
  refine KL_5 FU _ _ _ _ _ _ _ _ _ _ _ _ _ hL hI (lv_sub hl [2, 3, 4, 1, 0] rfl) (fun z0 H locs ls eo hI hl => ?_)
  subst eo
  refine lv_iload_n C.1 C.2.1 dX4_yearOf_85 rfl (lv_at hl 0 rfl) ?_
  obtain rfl := Option.some.inj hs
  exact C_iret C hI dX4_yearOf_86

def sX4_learn (x1 : Int32) (x2 : Int32) (x3 : Int32) (I : Nat → Int32) (J : Nat → Int64) (A : Nat → Nat → Int32) (B : Nat → Nat → Int64) : Option ((Nat → Nat → Int32)) :=
gv ((x1 * (8 : Int32)) + x2) fun x4_6 =>
ck (inB x4_6 64) <|
ck (inB x4_6 64) <|
gv (va_up A 16 (upd (A 16) (ix x4_6) (if x3 < (A 16 (ix x4_6)) then x3 else (A 16 (ix x4_6))))) fun A =>
some A
set_option maxRecDepth 100000 in
set_option maxHeartbeats 8000000 in
theorem kX4_learn (l : Launch) (D : va_G) (cy : Nat → ClassId) (P0 : Nat → Prop) (q z : Nat → Nat) (tl : va_W) (xx : (Nat → Option Nat) × (Nat → Option Nat) × Nat) (x1 : Int32) (x2 : Int32) (x3 : Int32) (I : Nat → Int32) (J : Nat → Int64) (A : Nat → Nat → Int32) (B : Nat → Nat → Int64) (A2 : Nat → Nat → Int32) (hs : sX4_learn x1 x2 x3 I J A B = some A2) : McC l yX4_learn cX4_learn 5 none 1 [.ref (q 0), .int x1, .int x2, .int x3] D cy P0 q z tl xx I J A B none xx I J A2 B := by
  refine C_start rfl (Nat.le_of_ble_eq_true rfl) ?_
  intro p e s m args below meth c H locs C hI ls hl
  have hl : lv_has ls 5 [(0, .ref (q 0)), (1, .int x1), (2, .int x2), (3, .int x3)] := hl
  rw [sX4_learn] at hs
  refine lv_iload_n C.1 C.2.1 dX4_learn_0 rfl (lv_at hl 1 rfl) ?_
  refine lv_bipush (v := 8) C.1 C.2.1 dX4_learn_1 (by decide) ?_
  refine lv_imul C.1 C.2.1 dX4_learn_3 ?_
  refine lv_iload_n C.1 C.2.1 dX4_learn_4 rfl (lv_at hl 2 rfl) ?_
  refine lv_iadd C.1 C.2.1 dX4_learn_5 ?_
  refine lv_topi (fun x4_6 ex4_6 => ?_)
  have hs := gv_at ex4_6 hs
  refine lv_istore (lv' := [(4, .int x4_6), (0, .ref (q 0)), (1, .int x1), (2, .int x2), (3, .int x3)]) C.1 C.2.1 dX4_learn_6 hl (by decide) rfl (fun ls hl => ?_)
  refine lv_aload_n C.1 C.2.1 dX4_learn_8 rfl (lv_at hl 1 rfl) ?_
  refine cg_X4_16 C hI dX4_learn_9 ?_
  refine lv_iload C.1 C.2.1 dX4_learn_12 (lv_at hl 0 rfl) ?_
  refine lv_aload_n C.1 C.2.1 dX4_learn_14 rfl (lv_at hl 1 rfl) ?_
  refine cg_X4_16 C hI dX4_learn_15 ?_
  refine lv_iload C.1 C.2.1 dX4_learn_18 (lv_at hl 0 rfl) ?_
  obtain ⟨hk, hs⟩ := ck_e hs
  refine ca_16 C hI hk dX4_learn_20 ?_
  refine lv_iload_n C.1 C.2.1 dX4_learn_21 rfl (lv_at hl 4 rfl) ?_
  refine c_min C hl.1 ml_X4_91 (by decide) (Nat.le_of_ble_eq_true rfl) dX4_learn_22 ?_
  obtain ⟨hk, hs⟩ := ck_e hs
  refine cs_16 C hI hk dX4_learn_25 (fun H locs hI => ?_)
  have hs := gv_be hs
  obtain rfl := Option.some.inj hs
  exact C_vret C hI dX4_learn_26

def lX4_firstOfOthers_7 : Nat → Int32 → Int32 → Int32 → Int32 → (Nat → Int32) → (Nat → Int64) → (Nat → Nat → Int32) → (Nat → Nat → Int64) → Option (Int32)
  | 0, _, _, _, _, _, _, _, _ => none
  | n + 1, x1, x2, x3, x4, I, J, A, B =>
    if (8 : Int32) ≤ x4 then
    (some x3)
    else
    if x4 = x1 then
    (gv (x4 + 1) fun x4_37 =>
    lX4_firstOfOthers_7 n x1 x2 x3 x4_37 I J A B)
    else
    ck (inB ((x4 * (8 : Int32)) + x2) 64) <|
    gv (if (A 16 (ix ((x4 * (8 : Int32)) + x2))) < x3 then (A 16 (ix ((x4 * (8 : Int32)) + x2))) else x3) fun x3_36 =>
    gv (x4 + 1) fun x4_37 =>
    lX4_firstOfOthers_7 n x1 x2 x3_36 x4_37 I J A B
def sX4_firstOfOthers (x1 : Int32) (x2 : Int32) (I : Nat → Int32) (J : Nat → Int64) (A : Nat → Nat → Int32) (B : Nat → Nat → Int64) : Option ((Int32)) :=
(lX4_firstOfOthers_7 FU x1 x2 (10000 : Int32) (0 : Int32) I J A B).bind fun x3_7 =>
some x3_7
set_option maxRecDepth 100000 in
set_option maxHeartbeats 8000000 in
theorem kX4_firstOfOthers (l : Launch) (D : va_G) (cy : Nat → ClassId) (P0 : Nat → Prop) (q z : Nat → Nat) (tl : va_W) (xx : (Nat → Option Nat) × (Nat → Option Nat) × Nat) (x1 : Int32) (x2 : Int32) (I : Nat → Int32) (J : Nat → Int64) (A : Nat → Nat → Int32) (B : Nat → Nat → Int64) (r : Int32) (hs : sX4_firstOfOthers x1 x2 I J A B = some r) : McC l yX4_firstOfOthers cX4_firstOfOthers 5 (some .int) 1 [.ref (q 0), .int x1, .int x2] D cy P0 q z tl xx I J A B (some (.int r)) xx I J A B := by
  refine C_start rfl (Nat.le_of_ble_eq_true rfl) ?_
  intro p e s m args below meth c H locs C hI ls hl
  have hl : lv_has ls 5 [(0, .ref (q 0)), (1, .int x1), (2, .int x2)] := hl
  rw [sX4_firstOfOthers] at hs
  refine lv_sipush (v := 10000) C.1 C.2.1 dX4_firstOfOthers_0 (by decide) ?_
  refine lv_istore_n (lv' := [(3, .int (10000 : Int32)), (0, .ref (q 0)), (1, .int x1), (2, .int x2)]) C.1 C.2.1 dX4_firstOfOthers_3 rfl hl (by decide) rfl (fun ls hl => ?_)
  refine lv_iconst (v := 0) C.1 C.2.1 dX4_firstOfOthers_4 (by decide) ?_
  refine lv_istore (lv' := [(4, .int (0 : Int32)), (3, .int (10000 : Int32)), (0, .ref (q 0)), (1, .int x1), (2, .int x2)]) C.1 C.2.1 dX4_firstOfOthers_5 hl (by decide) rfl (fun ls hl => ?_)
  have KL_7 : ∀ (n : Nat) (x1 : Int32) (x2 : Int32) (x3 : Int32) (x4 : Int32) (I : Nat → Int32) (J : Nat → Int64) (A : Nat → Nat → Int32) (B : Nat → Nat → Int64) (o : Int32) (Q : State → Prop) (H : Heap) (locs : List Loc) (ls : Array Slot), lX4_firstOfOthers_7 n x1 x2 x3 x4 I J A B = some o → CI D cy s P0 s.heap H locs q z tl xx I J A B → lv_has ls 5 [(0, .ref (q 0)), (1, .int x1), (2, .int x2), (3, .int x3), (4, .int x4)] → (∀ (o3_0 : Int32) (H : Heap) (locs : List Loc) (ls : Array Slot), o = o3_0 → CI D cy s P0 s.heap H locs q z tl xx I J A B → lv_has ls 5 [(3, .int o3_0)] → W p l e (rmL 1) s m args below meth c H locs 0 0 Q (F0 m 43 ls [])) → W p l e (rmL 1) s m args below meth c H locs 0 0 Q (F0 m 7 ls []) := by
    intro n; induction n with
    | zero => intro x1 x2 x3 x4 I J A B o Q H locs ls hs; rw [lX4_firstOfOthers_7] at hs; cases hs
    | succ n ih =>
      intro x1 x2 x3 x4 I J A B o Q H locs ls hs hI hl kk0
      rw [lX4_firstOfOthers_7] at hs
      refine lv_iload C.1 C.2.1 dX4_firstOfOthers_7 (lv_at hl 4 rfl) ?_
      refine lv_bipush (v := 8) C.1 C.2.1 dX4_firstOfOthers_9 (by decide) ?_
      refine lv_icmp_ge (tgt := 43) C.1 C.2.1 dX4_firstOfOthers_11 (by decide) (fun cn => ?_) (fun cn => ?_)
      · have hs := if_t cn hs
        have eo := (Option.some.inj hs).symm
        exact kk0 _ _ _ _ eo hI (lv_sub hl [3] rfl)
      · have hs := if_f cn hs
        refine lv_iload C.1 C.2.1 dX4_firstOfOthers_14 (lv_at hl 4 rfl) ?_
        refine lv_iload_n C.1 C.2.1 dX4_firstOfOthers_16 rfl (lv_at hl 1 rfl) ?_
        refine lv_icmp_eq (tgt := 37) C.1 C.2.1 dX4_firstOfOthers_17 (by decide) (fun cn => ?_) (fun cn => ?_)
        · have hs := if_t cn hs
          obtain ⟨x4_37, ex4_37⟩ : ∃ y : Int32, y = (x4 + 1) := ⟨_, rfl⟩
          have hs := gv_at ex4_37 hs
          refine lv_iinc (v := x4_37) (lv' := [(4, .int x4_37), (0, .ref (q 0)), (1, .int x1), (2, .int x2), (3, .int x3)]) C.1 C.2.1 dX4_firstOfOthers_37 hl (k := 4) rfl (by rw [ex4_37]; rfl) (by decide) rfl (fun ls hl => ?_)
          refine lv_goto (tgt := 7) C.1 C.2.1 dX4_firstOfOthers_40 (by decide) ?_
          exact ih _ _ _ _ _ _ _ _ _ _ _ _ _ hs hI (lv_sub hl [1, 2, 3, 4, 0] rfl) kk0
        · have hs := if_f cn hs
          refine lv_iload_n C.1 C.2.1 dX4_firstOfOthers_20 rfl (lv_at hl 3 rfl) ?_
          refine lv_aload_n C.1 C.2.1 dX4_firstOfOthers_21 rfl (lv_at hl 0 rfl) ?_
          refine cg_X4_16 C hI dX4_firstOfOthers_22 ?_
          refine lv_iload C.1 C.2.1 dX4_firstOfOthers_25 (lv_at hl 4 rfl) ?_
          refine lv_bipush (v := 8) C.1 C.2.1 dX4_firstOfOthers_27 (by decide) ?_
          refine lv_imul C.1 C.2.1 dX4_firstOfOthers_29 ?_
          refine lv_iload_n C.1 C.2.1 dX4_firstOfOthers_30 rfl (lv_at hl 2 rfl) ?_
          refine lv_iadd C.1 C.2.1 dX4_firstOfOthers_31 ?_
          obtain ⟨hk, hs⟩ := ck_e hs
          refine ca_16 C hI hk dX4_firstOfOthers_32 ?_
          refine c_min C hl.1 ml_X4_91 (by decide) (Nat.le_of_ble_eq_true rfl) dX4_firstOfOthers_33 ?_
          refine lv_topi (fun x3_36 ex3_36 => ?_)
          have hs := gv_at ex3_36 hs
          refine lv_istore_n (lv' := [(3, .int x3_36), (0, .ref (q 0)), (1, .int x1), (2, .int x2), (4, .int x4)]) C.1 C.2.1 dX4_firstOfOthers_36 rfl hl (by decide) rfl (fun ls hl => ?_)
          obtain ⟨x4_37, ex4_37⟩ : ∃ y : Int32, y = (x4 + 1) := ⟨_, rfl⟩
          have hs := gv_at ex4_37 hs
          refine lv_iinc (v := x4_37) (lv' := [(4, .int x4_37), (3, .int x3_36), (0, .ref (q 0)), (1, .int x1), (2, .int x2)]) C.1 C.2.1 dX4_firstOfOthers_37 hl (k := 4) rfl (by rw [ex4_37]; rfl) (by decide) rfl (fun ls hl => ?_)
          refine lv_goto (tgt := 7) C.1 C.2.1 dX4_firstOfOthers_40 (by decide) ?_
          exact ih _ _ _ _ _ _ _ _ _ _ _ _ _ hs hI (lv_sub hl [2, 3, 4, 1, 0] rfl) kk0
  obtain ⟨x3_7, hL, hs⟩ := bd_e hs
  refine KL_7 FU _ _ _ _ _ _ _ _ _ _ _ _ _ hL hI (lv_sub hl [2, 3, 4, 1, 0] rfl) (fun z0 H locs ls eo hI hl => ?_)
  subst eo
  refine lv_iload_n C.1 C.2.1 dX4_firstOfOthers_43 rfl (lv_at hl 0 rfl) ?_
  obtain rfl := Option.some.inj hs
  exact C_iret C hI dX4_firstOfOthers_44

def lX4_peopleUnder_5 : Nat → Int32 → Int32 → Int32 → Int32 → (Nat → Int32) → (Nat → Int64) → (Nat → Nat → Int32) → (Nat → Nat → Int64) → Option (Int32)
  | 0, _, _, _, _, _, _, _, _ => none
  | n + 1, x1, x2, x3, x4, I, J, A, B =>
    if (I 38) ≤ x4 then
    (some x3)
    else
    (sX5_cell 2 x4 (0 : Int32) I J A B).bind fun r_24 =>
    gv ((r_24 - x1) &&& (7 : Int32)) fun x5_32 =>
    gv (if x5_32 = 0 then x2 else (if x5_32 = (1 : Int32) then (x2 / (2 : Int32)) else (if x5_32 = (7 : Int32) then (x2 / (2 : Int32)) else (0 : Int32)))) fun v_63 =>
    (sX5_cell 2 x4 (1 : Int32) I J A B).bind fun r_72 =>
    if v_63 < r_72 then
    (gv (x4 + 1) fun x4_93 =>
    lX4_peopleUnder_5 n x1 x2 x3 x4_93 I J A B)
    else
    (sX5_cell 2 x4 (2 : Int32) I J A B).bind fun r_88 =>
    gv (x3 + r_88) fun x3_92 =>
    gv (x4 + 1) fun x4_93 =>
    lX4_peopleUnder_5 n x1 x2 x3_92 x4_93 I J A B
def sX4_peopleUnder (x1 : Int32) (x2 : Int32) (I : Nat → Int32) (J : Nat → Int64) (A : Nat → Nat → Int32) (B : Nat → Nat → Int64) : Option ((Int32)) :=
(lX4_peopleUnder_5 FU x1 x2 (0 : Int32) (0 : Int32) I J A B).bind fun x3_5 =>
some x3_5
set_option maxRecDepth 100000 in
set_option maxHeartbeats 8000000 in
theorem kX4_peopleUnder (l : Launch) (D : va_G) (cy : Nat → ClassId) (P0 : Nat → Prop) (q z : Nat → Nat) (tl : va_W) (xx : (Nat → Option Nat) × (Nat → Option Nat) × Nat) (x1 : Int32) (x2 : Int32) (I : Nat → Int32) (J : Nat → Int64) (A : Nat → Nat → Int32) (B : Nat → Nat → Int64) (r : Int32) (hs : sX4_peopleUnder x1 x2 I J A B = some r) : McC l yX4_peopleUnder cX4_peopleUnder 7 (some .int) 1 [.ref (q 0), .int x1, .int x2] D cy P0 q z tl xx I J A B (some (.int r)) xx I J A B := by
  refine C_start rfl (Nat.le_of_ble_eq_true rfl) ?_
  intro p e s m args below meth c H locs C hI ls hl
  have hl : lv_has ls 7 [(0, .ref (q 0)), (1, .int x1), (2, .int x2)] := hl
  rw [sX4_peopleUnder] at hs
  refine lv_iconst (v := 0) C.1 C.2.1 dX4_peopleUnder_0 (by decide) ?_
  refine lv_istore_n (lv' := [(3, .int (0 : Int32)), (0, .ref (q 0)), (1, .int x1), (2, .int x2)]) C.1 C.2.1 dX4_peopleUnder_1 rfl hl (by decide) rfl (fun ls hl => ?_)
  refine lv_iconst (v := 0) C.1 C.2.1 dX4_peopleUnder_2 (by decide) ?_
  refine lv_istore (lv' := [(4, .int (0 : Int32)), (3, .int (0 : Int32)), (0, .ref (q 0)), (1, .int x1), (2, .int x2)]) C.1 C.2.1 dX4_peopleUnder_3 hl (by decide) rfl (fun ls hl => ?_)
  have KL_5 : ∀ (n : Nat) (x1 : Int32) (x2 : Int32) (x3 : Int32) (x4 : Int32) (I : Nat → Int32) (J : Nat → Int64) (A : Nat → Nat → Int32) (B : Nat → Nat → Int64) (o : Int32) (Q : State → Prop) (H : Heap) (locs : List Loc) (ls : Array Slot), lX4_peopleUnder_5 n x1 x2 x3 x4 I J A B = some o → CI D cy s P0 s.heap H locs q z tl xx I J A B → lv_has ls 7 [(0, .ref (q 0)), (1, .int x1), (2, .int x2), (3, .int x3), (4, .int x4)] → (∀ (o3_0 : Int32) (H : Heap) (locs : List Loc) (ls : Array Slot), o = o3_0 → CI D cy s P0 s.heap H locs q z tl xx I J A B → lv_has ls 7 [(3, .int o3_0)] → W p l e (rmL 1) s m args below meth c H locs 0 0 Q (F0 m 99 ls [])) → W p l e (rmL 1) s m args below meth c H locs 0 0 Q (F0 m 5 ls []) := by
    intro n; induction n with
    | zero => intro x1 x2 x3 x4 I J A B o Q H locs ls hs; rw [lX4_peopleUnder_5] at hs; cases hs
    | succ n ih =>
      intro x1 x2 x3 x4 I J A B o Q H locs ls hs hI hl kk0
      rw [lX4_peopleUnder_5] at hs
      refine lv_iload C.1 C.2.1 dX4_peopleUnder_5 (lv_at hl 4 rfl) ?_
      refine lv_aload_n C.1 C.2.1 dX4_peopleUnder_7 rfl (lv_at hl 0 rfl) ?_
      refine cg_X4_19 C hI dX4_peopleUnder_8 ?_
      refine cg_X4_38 C hI dX4_peopleUnder_11 ?_
      refine lv_icmp_ge (tgt := 99) C.1 C.2.1 dX4_peopleUnder_14 (by decide) (fun cn => ?_) (fun cn => ?_)
      · have hs := if_t cn hs
        have eo := (Option.some.inj hs).symm
        exact kk0 _ _ _ _ eo hI (lv_sub hl [3] rfl)
      · have hs := if_f cn hs
        refine lv_aload_n C.1 C.2.1 dX4_peopleUnder_17 rfl (lv_at hl 0 rfl) ?_
        refine cg_X4_19 C hI dX4_peopleUnder_18 ?_
        refine lv_iload C.1 C.2.1 dX4_peopleUnder_21 (lv_at hl 4 rfl) ?_
        refine lv_iconst (v := 0) C.1 C.2.1 dX4_peopleUnder_23 (by decide) ?_
        obtain ⟨r_24, hc, hs⟩ := bd_e hs
        refine C_call C hI (kX5_cell l D cy P0 q z tl xx 2 (by decide) _ _ _ _ _ _ _ hc) (rv_X5 hI 2 (by decide)) ml_X4_83 im_X5_cell se_X5_cell ini_X5 co_X5_cell hyX5_cell rfl ⟨by decide, by decide⟩ hl.1 rfl (Nat.le_of_ble_eq_true rfl) dX4_peopleUnder_24 (fun H locs hI => ?_)
        refine lv_iload_n C.1 C.2.1 dX4_peopleUnder_27 rfl (lv_at hl 1 rfl) ?_
        refine lv_isub C.1 C.2.1 dX4_peopleUnder_28 ?_
        refine lv_bipush (v := 7) C.1 C.2.1 dX4_peopleUnder_29 (by decide) ?_
        refine lv_iand C.1 C.2.1 dX4_peopleUnder_31 ?_
        refine lv_topi (fun x5_32 ex5_32 => ?_)
        have hs := gv_at ex5_32 hs
        refine lv_istore (lv' := [(5, .int x5_32), (0, .ref (q 0)), (1, .int x1), (2, .int x2), (3, .int x3), (4, .int x4)]) C.1 C.2.1 dX4_peopleUnder_32 hl (by decide) rfl (fun ls hl => ?_)
        refine lv_iload C.1 C.2.1 dX4_peopleUnder_34 (lv_at hl 0 rfl) ?_
        obtain ⟨v_63, ev_63, hs⟩ := gv_ex hs
        have KP_63 : W p l e (rmL 1) s m args below meth c H locs 0 0 Q (F0 m 63 ls [.int v_63]) := by
          refine lv_istore (lv' := [(6, .int v_63), (5, .int x5_32), (0, .ref (q 0)), (1, .int x1), (2, .int x2), (3, .int x3), (4, .int x4)]) C.1 C.2.1 dX4_peopleUnder_63 hl (by decide) rfl (fun ls hl => ?_)
          refine lv_aload_n C.1 C.2.1 dX4_peopleUnder_65 rfl (lv_at hl 2 rfl) ?_
          refine cg_X4_19 C hI dX4_peopleUnder_66 ?_
          refine lv_iload C.1 C.2.1 dX4_peopleUnder_69 (lv_at hl 6 rfl) ?_
          refine lv_iconst (v := 1) C.1 C.2.1 dX4_peopleUnder_71 (by decide) ?_
          obtain ⟨r_72, hc, hs⟩ := bd_e hs
          refine C_call C hI (kX5_cell l D cy P0 q z tl xx 2 (by decide) _ _ _ _ _ _ _ hc) (rv_X5 hI 2 (by decide)) ml_X4_83 im_X5_cell se_X5_cell ini_X5 co_X5_cell hyX5_cell rfl ⟨by decide, by decide⟩ hl.1 rfl (Nat.le_of_ble_eq_true rfl) dX4_peopleUnder_72 (fun H locs hI => ?_)
          refine lv_iload C.1 C.2.1 dX4_peopleUnder_75 (lv_at hl 0 rfl) ?_
          refine lv_icmp_gt (tgt := 93) C.1 C.2.1 dX4_peopleUnder_77 (by decide) (fun cn => ?_) (fun cn => ?_)
          · have hs := if_t cn hs
            obtain ⟨x4_93, ex4_93⟩ : ∃ y : Int32, y = (x4 + 1) := ⟨_, rfl⟩
            have hs := gv_at ex4_93 hs
            refine lv_iinc (v := x4_93) (lv' := [(4, .int x4_93), (6, .int v_63), (5, .int x5_32), (0, .ref (q 0)), (1, .int x1), (2, .int x2), (3, .int x3)]) C.1 C.2.1 dX4_peopleUnder_93 hl (k := 6) rfl (by rw [ex4_93]; rfl) (by decide) rfl (fun ls hl => ?_)
            refine lv_goto (tgt := 5) C.1 C.2.1 dX4_peopleUnder_96 (by decide) ?_
            exact ih _ _ _ _ _ _ _ _ _ _ _ _ _ hs hI (lv_sub hl [3, 4, 5, 6, 0] rfl) kk0
          · have hs := if_f cn hs
            refine lv_iload_n C.1 C.2.1 dX4_peopleUnder_80 rfl (lv_at hl 5 rfl) ?_
            refine lv_aload_n C.1 C.2.1 dX4_peopleUnder_81 rfl (lv_at hl 2 rfl) ?_
            refine cg_X4_19 C hI dX4_peopleUnder_82 ?_
            refine lv_iload C.1 C.2.1 dX4_peopleUnder_85 (lv_at hl 6 rfl) ?_
            refine lv_iconst (v := 2) C.1 C.2.1 dX4_peopleUnder_87 (by decide) ?_
            obtain ⟨r_88, hc, hs⟩ := bd_e hs
            refine C_call C hI (kX5_cell l D cy P0 q z tl xx 2 (by decide) _ _ _ _ _ _ _ hc) (rv_X5 hI 2 (by decide)) ml_X4_83 im_X5_cell se_X5_cell ini_X5 co_X5_cell hyX5_cell rfl ⟨by decide, by decide⟩ hl.1 rfl (Nat.le_of_ble_eq_true rfl) dX4_peopleUnder_88 (fun H locs hI => ?_)
            refine lv_iadd C.1 C.2.1 dX4_peopleUnder_91 ?_
            refine lv_topi (fun x3_92 ex3_92 => ?_)
            have hs := gv_at ex3_92 hs
            refine lv_istore_n (lv' := [(3, .int x3_92), (6, .int v_63), (5, .int x5_32), (0, .ref (q 0)), (1, .int x1), (2, .int x2), (4, .int x4)]) C.1 C.2.1 dX4_peopleUnder_92 rfl hl (by decide) rfl (fun ls hl => ?_)
            obtain ⟨x4_93, ex4_93⟩ : ∃ y : Int32, y = (x4 + 1) := ⟨_, rfl⟩
            have hs := gv_at ex4_93 hs
            refine lv_iinc (v := x4_93) (lv' := [(4, .int x4_93), (3, .int x3_92), (6, .int v_63), (5, .int x5_32), (0, .ref (q 0)), (1, .int x1), (2, .int x2)]) C.1 C.2.1 dX4_peopleUnder_93 hl (k := 6) rfl (by rw [ex4_93]; rfl) (by decide) rfl (fun ls hl => ?_)
            refine lv_goto (tgt := 5) C.1 C.2.1 dX4_peopleUnder_96 (by decide) ?_
            exact ih _ _ _ _ _ _ _ _ _ _ _ _ _ hs hI (lv_sub hl [4, 5, 6, 1, 0] rfl) kk0
        refine lv_if_ne (tgt := 43) C.1 C.2.1 dX4_peopleUnder_36 (by decide) (fun cn => ?_) (fun cn => ?_)
        · have ev_63 := if_f' cn ev_63
          refine lv_iload C.1 C.2.1 dX4_peopleUnder_43 (lv_at hl 0 rfl) ?_
          refine lv_iconst (v := 1) C.1 C.2.1 dX4_peopleUnder_45 (by decide) ?_
          refine lv_icmp_eq (tgt := 56) C.1 C.2.1 dX4_peopleUnder_46 (by decide) (fun cn => ?_) (fun cn => ?_)
          · have ev_63 := if_t' cn ev_63
            refine lv_iload_n C.1 C.2.1 dX4_peopleUnder_56 rfl (lv_at hl 3 rfl) ?_
            refine lv_iconst (v := 2) C.1 C.2.1 dX4_peopleUnder_57 (by decide) ?_
            refine lv_idiv C.1 C.2.1 dX4_peopleUnder_58 (by decide) ?_
            refine lv_goto (tgt := 63) C.1 C.2.1 dX4_peopleUnder_59 (by decide) ?_
            subst ev_63
            exact KP_63
          · have ev_63 := if_f' cn ev_63
            refine lv_iload C.1 C.2.1 dX4_peopleUnder_49 (lv_at hl 0 rfl) ?_
            refine lv_bipush (v := 7) C.1 C.2.1 dX4_peopleUnder_51 (by decide) ?_
            refine lv_icmp_ne (tgt := 62) C.1 C.2.1 dX4_peopleUnder_53 (by decide) (fun cn => ?_) (fun cn => ?_)
            · have ev_63 := if_f' cn ev_63
              refine lv_iconst (v := 0) C.1 C.2.1 dX4_peopleUnder_62 (by decide) ?_
              subst ev_63
              exact KP_63
            · have ev_63 := if_t' cn ev_63
              refine lv_iload_n C.1 C.2.1 dX4_peopleUnder_56 rfl (lv_at hl 3 rfl) ?_
              refine lv_iconst (v := 2) C.1 C.2.1 dX4_peopleUnder_57 (by decide) ?_
              refine lv_idiv C.1 C.2.1 dX4_peopleUnder_58 (by decide) ?_
              refine lv_goto (tgt := 63) C.1 C.2.1 dX4_peopleUnder_59 (by decide) ?_
              subst ev_63
              exact KP_63
        · have ev_63 := if_t' cn ev_63
          refine lv_iload_n C.1 C.2.1 dX4_peopleUnder_39 rfl (lv_at hl 3 rfl) ?_
          refine lv_goto (tgt := 63) C.1 C.2.1 dX4_peopleUnder_40 (by decide) ?_
          subst ev_63
          exact KP_63
  obtain ⟨x3_5, hL, hs⟩ := bd_e hs
  refine KL_5 FU _ _ _ _ _ _ _ _ _ _ _ _ _ hL hI (lv_sub hl [2, 3, 4, 1, 0] rfl) (fun z0 H locs ls eo hI hl => ?_)
  subst eo
  refine lv_iload_n C.1 C.2.1 dX4_peopleUnder_99 rfl (lv_at hl 0 rfl) ?_
  obtain rfl := Option.some.inj hs
  exact C_iret C hI dX4_peopleUnder_100

def lX4_hoursLeft_13 : Nat → Int32 → Int32 → Int32 → Int32 → (Nat → Int32) → (Nat → Int64) → (Nat → Nat → Int32) → (Nat → Nat → Int64) → Option ((Int32) ⊕ (Unit))
  | 0, _, _, _, _, _, _, _, _ => none
  | n + 1, x1, x2, x3, x4, I, J, A, B =>
    if x3 ≤ x4 then
    (some (.inr ()))
    else
    (sX5_cell 3 x1 ((2 : Int32) + x4) I J A B).bind fun r_28 =>
    if r_28 < x2 then
    (gv (x4 + 1) fun x4_40 =>
    lX4_hoursLeft_13 n x1 x2 x3 x4_40 I J A B)
    else
    some (.inl x4)
def sX4_hoursLeft (x1 : Int32) (x2 : Int32) (I : Nat → Int32) (J : Nat → Int64) (A : Nat → Nat → Int32) (B : Nat → Nat → Int64) : Option ((Int32)) :=
(sX5_cell 3 x1 (1 : Int32) I J A B).bind fun r_6 =>
(lX4_hoursLeft_13 FU x1 x2 r_6 (0 : Int32) I J A B).bind fun o_13 => match o_13 with
| .inl x4_13 =>
some (r_6 - x4_13)
| .inr _ =>
some (0 : Int32)
set_option maxRecDepth 100000 in
set_option maxHeartbeats 8000000 in
theorem kX4_hoursLeft (l : Launch) (D : va_G) (cy : Nat → ClassId) (P0 : Nat → Prop) (q z : Nat → Nat) (tl : va_W) (xx : (Nat → Option Nat) × (Nat → Option Nat) × Nat) (x1 : Int32) (x2 : Int32) (I : Nat → Int32) (J : Nat → Int64) (A : Nat → Nat → Int32) (B : Nat → Nat → Int64) (r : Int32) (hs : sX4_hoursLeft x1 x2 I J A B = some r) : McC l yX4_hoursLeft cX4_hoursLeft 5 (some .int) 1 [.ref (q 0), .int x1, .int x2] D cy P0 q z tl xx I J A B (some (.int r)) xx I J A B := by
  refine C_start rfl (Nat.le_of_ble_eq_true rfl) ?_
  intro p e s m args below meth c H locs C hI ls hl
  have hl : lv_has ls 5 [(0, .ref (q 0)), (1, .int x1), (2, .int x2)] := hl
  rw [sX4_hoursLeft] at hs
  refine lv_aload_n C.1 C.2.1 dX4_hoursLeft_0 rfl (lv_at hl 0 rfl) ?_
  refine cg_X4_20 C hI dX4_hoursLeft_1 ?_
  refine lv_iload_n C.1 C.2.1 dX4_hoursLeft_4 rfl (lv_at hl 1 rfl) ?_
  refine lv_iconst (v := 1) C.1 C.2.1 dX4_hoursLeft_5 (by decide) ?_
  obtain ⟨r_6, hc, hs⟩ := bd_e hs
  refine C_call C hI (kX5_cell l D cy P0 q z tl xx 3 (by decide) _ _ _ _ _ _ _ hc) (rv_X5 hI 3 (by decide)) ml_X4_83 im_X5_cell se_X5_cell ini_X5 co_X5_cell hyX5_cell rfl ⟨by decide, by decide⟩ hl.1 rfl (Nat.le_of_ble_eq_true rfl) dX4_hoursLeft_6 (fun H locs hI => ?_)
  refine lv_istore_n (lv' := [(3, .int r_6), (0, .ref (q 0)), (1, .int x1), (2, .int x2)]) C.1 C.2.1 dX4_hoursLeft_9 rfl hl (by decide) rfl (fun ls hl => ?_)
  refine lv_iconst (v := 0) C.1 C.2.1 dX4_hoursLeft_10 (by decide) ?_
  refine lv_istore (lv' := [(4, .int (0 : Int32)), (3, .int r_6), (0, .ref (q 0)), (1, .int x1), (2, .int x2)]) C.1 C.2.1 dX4_hoursLeft_11 hl (by decide) rfl (fun ls hl => ?_)
  have KL_13 : ∀ (n : Nat) (x1 : Int32) (x2 : Int32) (x3 : Int32) (x4 : Int32) (I : Nat → Int32) (J : Nat → Int64) (A : Nat → Nat → Int32) (B : Nat → Nat → Int64) (o : (Int32) ⊕ (Unit)) (Q : State → Prop) (H : Heap) (locs : List Loc) (ls : Array Slot), lX4_hoursLeft_13 n x1 x2 x3 x4 I J A B = some o → CI D cy s P0 s.heap H locs q z tl xx I J A B → lv_has ls 5 [(0, .ref (q 0)), (1, .int x1), (2, .int x2), (3, .int x3), (4, .int x4)] → (∀ (o4_0 : Int32) (H : Heap) (locs : List Loc) (ls : Array Slot), o = (.inl o4_0) → CI D cy s P0 s.heap H locs q z tl xx I J A B → lv_has ls 5 [(3, .int x3), (4, .int o4_0)] → W p l e (rmL 1) s m args below meth c H locs 0 0 Q (F0 m 35 ls [])) → (∀ (H : Heap) (locs : List Loc) (ls : Array Slot), o = (.inr ()) → CI D cy s P0 s.heap H locs q z tl xx I J A B → lv_has ls 5 [] → W p l e (rmL 1) s m args below meth c H locs 0 0 Q (F0 m 46 ls [])) → W p l e (rmL 1) s m args below meth c H locs 0 0 Q (F0 m 13 ls []) := by
    intro n; induction n with
    | zero => intro x1 x2 x3 x4 I J A B o Q H locs ls hs; rw [lX4_hoursLeft_13] at hs; cases hs
    | succ n ih =>
      intro x1 x2 x3 x4 I J A B o Q H locs ls hs hI hl kk0 kk1
      rw [lX4_hoursLeft_13] at hs
      refine lv_iload C.1 C.2.1 dX4_hoursLeft_13 (lv_at hl 4 rfl) ?_
      refine lv_iload_n C.1 C.2.1 dX4_hoursLeft_15 rfl (lv_at hl 3 rfl) ?_
      refine lv_icmp_ge (tgt := 46) C.1 C.2.1 dX4_hoursLeft_16 (by decide) (fun cn => ?_) (fun cn => ?_)
      · have hs := if_t cn hs
        have eo := (Option.some.inj hs).symm
        exact kk1  _ _ _ eo hI (lv_sub hl [] rfl)
      · have hs := if_f cn hs
        refine lv_aload_n C.1 C.2.1 dX4_hoursLeft_19 rfl (lv_at hl 0 rfl) ?_
        refine cg_X4_20 C hI dX4_hoursLeft_20 ?_
        refine lv_iload_n C.1 C.2.1 dX4_hoursLeft_23 rfl (lv_at hl 1 rfl) ?_
        refine lv_iconst (v := 2) C.1 C.2.1 dX4_hoursLeft_24 (by decide) ?_
        refine lv_iload C.1 C.2.1 dX4_hoursLeft_25 (lv_at hl 4 rfl) ?_
        refine lv_iadd C.1 C.2.1 dX4_hoursLeft_27 ?_
        obtain ⟨r_28, hc, hs⟩ := bd_e hs
        refine C_call C hI (kX5_cell l D cy P0 q z tl xx 3 (by decide) _ _ _ _ _ _ _ hc) (rv_X5 hI 3 (by decide)) ml_X4_83 im_X5_cell se_X5_cell ini_X5 co_X5_cell hyX5_cell rfl ⟨by decide, by decide⟩ hl.1 rfl (Nat.le_of_ble_eq_true rfl) dX4_hoursLeft_28 (fun H locs hI => ?_)
        refine lv_iload_n C.1 C.2.1 dX4_hoursLeft_31 rfl (lv_at hl 2 rfl) ?_
        refine lv_icmp_lt (tgt := 40) C.1 C.2.1 dX4_hoursLeft_32 (by decide) (fun cn => ?_) (fun cn => ?_)
        · have hs := if_t cn hs
          obtain ⟨x4_40, ex4_40⟩ : ∃ y : Int32, y = (x4 + 1) := ⟨_, rfl⟩
          have hs := gv_at ex4_40 hs
          refine lv_iinc (v := x4_40) (lv' := [(4, .int x4_40), (0, .ref (q 0)), (1, .int x1), (2, .int x2), (3, .int x3)]) C.1 C.2.1 dX4_hoursLeft_40 hl (k := 4) rfl (by rw [ex4_40]; rfl) (by decide) rfl (fun ls hl => ?_)
          refine lv_goto (tgt := 13) C.1 C.2.1 dX4_hoursLeft_43 (by decide) ?_
          exact ih _ _ _ _ _ _ _ _ _ _ _ _ _ hs hI (lv_sub hl [1, 2, 3, 4, 0] rfl) kk0 kk1
        · have hs := if_f cn hs
          have eo := (Option.some.inj hs).symm
          exact kk0 _ _ _ _ eo hI (lv_sub hl [3, 4] rfl)
  obtain ⟨o_13, hL, hs⟩ := bd_e hs
  refine KL_13 FU _ _ _ _ _ _ _ _ _ _ _ _ _ hL hI (lv_sub hl [2, 3, 4, 1, 0] rfl) (fun x4_13 H locs ls eo hI hl => ?_) (fun H locs ls eo hI hl => ?_)
  · rw [eo] at hs
    refine lv_iload_n C.1 C.2.1 dX4_hoursLeft_35 rfl (lv_at hl 0 rfl) ?_
    refine lv_iload C.1 C.2.1 dX4_hoursLeft_36 (lv_at hl 1 rfl) ?_
    refine lv_isub C.1 C.2.1 dX4_hoursLeft_38 ?_
    obtain rfl := Option.some.inj hs
    exact C_iret C hI dX4_hoursLeft_39
  · rw [eo] at hs
    refine lv_iconst (v := 0) C.1 C.2.1 dX4_hoursLeft_46 (by decide) ?_
    obtain rfl := Option.some.inj hs
    exact C_iret C hI dX4_hoursLeft_47

def sX5_open (nt : Nat) (I : Nat → Int32) (J : Nat → Int64) (A : Nat → Nat → Int32) (B : Nat → Nat → Int64) : Option ((Nat → Int32)) :=
(sX5_isFull nt  I J A B).bind fun r_1 =>
if r_1 = 0 then
(gv (upd I (32 + 3 * nt) ((I (32 + 3 * nt)) + (1 : Int32))) fun I =>
some I)
else
some I
set_option maxRecDepth 100000 in
set_option maxHeartbeats 8000000 in
theorem kX5_open (l : Launch) (D : va_G) (cy : Nat → ClassId) (P0 : Nat → Prop) (q z : Nat → Nat) (tl : va_W) (xx : (Nat → Option Nat) × (Nat → Option Nat) × Nat) (nt : Nat) (hn : nt < 5) (I : Nat → Int32) (J : Nat → Int64) (A : Nat → Nat → Int32) (B : Nat → Nat → Int64) (I2 : Nat → Int32) (hs : sX5_open nt I J A B = some I2) : McC l yX5_open cX5_open 1 none 1 [.ref (q (17 + nt))] D cy P0 q z tl xx I J A B none xx I2 J A B := by
  refine C_start rfl (Nat.le_of_ble_eq_true rfl) ?_
  intro p e s m args below meth c H locs C hI ls hl
  have hl : lv_has ls 1 [(0, .ref (q (17 + nt)))] := hl
  rw [sX5_open] at hs
  refine lv_aload_n C.1 C.2.1 dX5_open_0 rfl (lv_at hl 0 rfl) ?_
  obtain ⟨r_1, hc, hs⟩ := bd_e hs
  refine C_call C hI (kX5_isFull l D cy P0 q z tl xx nt hn _ _ _ _ _ hc) (rv_X5 hI nt hn) ml_X5_20 im_X5_isFull se_X5_isFull ini_X5 co_X5_isFull hyX5_isFull rfl ⟨by decide, by decide⟩ hl.1 rfl (Nat.le_of_ble_eq_true rfl) dX5_open_1 (fun H locs hI => ?_)
  refine lv_if_ne (tgt := 17) C.1 C.2.1 dX5_open_4 (by decide) (fun cn => ?_) (fun cn => ?_)
  · have hs := if_f cn hs
    obtain rfl := Option.some.inj hs
    exact C_vret C hI dX5_open_17
  · have hs := if_t cn hs
    refine lv_aload_n C.1 C.2.1 dX5_open_7 rfl (lv_at hl 0 rfl) ?_
    refine lv_dup C.1 C.2.1 dX5_open_8 rfl ?_
    refine cg_X5_size nt hn C hI dX5_open_9 ?_
    refine lv_iconst (v := 1) C.1 C.2.1 dX5_open_12 (by decide) ?_
    refine lv_iadd C.1 C.2.1 dX5_open_13 ?_
    refine cp_X5_size nt hn C hI dX5_open_14 (fun H locs hI => ?_)
    have hs := gv_be hs
    obtain rfl := Option.some.inj hs
    exact C_vret C hI dX5_open_17

def sX7_stiff (x1 : Int32) (x2 : Int32) (I : Nat → Int32) (J : Nat → Int64) (A : Nat → Nat → Int32) (B : Nat → Nat → Int64) : Option ((Int32) × (Nat → Int32) × (Nat → Nat → Int32)) :=
(sX7_isJoint x1).bind fun r_1 =>
if r_1 = 0 then
((sX7_refuse (-1 : Int32) I J A B).bind fun (r_20, I) =>
some (r_20, I, A))
else
if x2 < (1 : Int32) then
((sX7_refuse (-1 : Int32) I J A B).bind fun (r_20, I) =>
some (r_20, I, A))
else
if x2 ≤ (9 : Int32) then
(ck (inB x1 48) <|
gv (A 10 (ix x1)) fun x3_33 =>
ck (inB x1 48) <|
gv (va_up A 10 (upd (A 10) (ix x1) x2)) fun A =>
(sX7_accept x3_33 I J A B).bind fun (r_46, I) =>
some (r_46, I, A))
else
(sX7_refuse (-1 : Int32) I J A B).bind fun (r_20, I) =>
some (r_20, I, A)
set_option maxRecDepth 100000 in
set_option maxHeartbeats 8000000 in
theorem kX7_stiff (l : Launch) (D : va_G) (cy : Nat → ClassId) (P0 : Nat → Prop) (q z : Nat → Nat) (tl : va_W) (xx : (Nat → Option Nat) × (Nat → Option Nat) × Nat) (x1 : Int32) (x2 : Int32) (I : Nat → Int32) (J : Nat → Int64) (A : Nat → Nat → Int32) (B : Nat → Nat → Int64) (r : Int32) (I2 : Nat → Int32) (A2 : Nat → Nat → Int32) (hs : sX7_stiff x1 x2 I J A B = some (r, I2, A2)) : McC l yX7_stiff cX7_stiff 4 (some .int) 1 [.ref (q 99), .int x1, .int x2] D cy P0 q z tl xx I J A B (some (.int r)) xx I2 J A2 B := by
  refine C_start rfl (Nat.le_of_ble_eq_true rfl) ?_
  intro p e s m args below meth c H locs C hI ls hl
  have hl : lv_has ls 4 [(0, .ref (q 99)), (1, .int x1), (2, .int x2)] := hl
  rw [sX7_stiff] at hs
  refine lv_iload_n C.1 C.2.1 dX7_stiff_0 rfl (lv_at hl 1 rfl) ?_
  obtain ⟨r_1, hc, hs⟩ := bd_e hs
  refine S_call (h := 1) C (kX7_isJoint l _ _ hc) ml_X7_66 st_X7_isJoint ini_X7 co_X7_isJoint hyX7_isJoint rfl ⟨by decide, by decide⟩ hl.1 rfl (Nat.le_of_ble_eq_true rfl) dX7_stiff_1 ⟨Nat.le_refl 0, Nat.le_refl 0, Nat.le_refl _, Nat.le_refl _⟩ ?_
  refine lv_if_eq (tgt := 18) C.1 C.2.1 dX7_stiff_4 (by decide) (fun cn => ?_) (fun cn => ?_)
  · have hs := if_t cn hs
    refine lv_aload_n C.1 C.2.1 dX7_stiff_18 rfl (lv_at hl 0 rfl) ?_
    refine lv_iconst (v := -1) C.1 C.2.1 dX7_stiff_19 (by decide) ?_
    obtain ⟨⟨r_20, I⟩, hc, hs⟩ := bd_e hs
    refine C_call C hI (kX7_refuse l D cy P0 q z tl xx _ _ _ _ _ _ _ hc) (rv_X7 hI) ml_X7_70 im_X7_refuse se_X7_refuse ini_X7 co_X7_refuse hyX7_refuse rfl ⟨by decide, by decide⟩ hl.1 rfl (Nat.le_of_ble_eq_true rfl) dX7_stiff_20 (fun H locs hI => ?_)
    obtain ⟨rfl, rfl, rfl⟩ := so3 hs
    exact C_iret C hI dX7_stiff_23
  · have hs := if_f cn hs
    refine lv_iload_n C.1 C.2.1 dX7_stiff_7 rfl (lv_at hl 2 rfl) ?_
    refine lv_iconst (v := 1) C.1 C.2.1 dX7_stiff_8 (by decide) ?_
    refine lv_icmp_lt (tgt := 18) C.1 C.2.1 dX7_stiff_9 (by decide) (fun cn => ?_) (fun cn => ?_)
    · have hs := if_t cn hs
      refine lv_aload_n C.1 C.2.1 dX7_stiff_18 rfl (lv_at hl 0 rfl) ?_
      refine lv_iconst (v := -1) C.1 C.2.1 dX7_stiff_19 (by decide) ?_
      obtain ⟨⟨r_20, I⟩, hc, hs⟩ := bd_e hs
      refine C_call C hI (kX7_refuse l D cy P0 q z tl xx _ _ _ _ _ _ _ hc) (rv_X7 hI) ml_X7_70 im_X7_refuse se_X7_refuse ini_X7 co_X7_refuse hyX7_refuse rfl ⟨by decide, by decide⟩ hl.1 rfl (Nat.le_of_ble_eq_true rfl) dX7_stiff_20 (fun H locs hI => ?_)
      obtain ⟨rfl, rfl, rfl⟩ := so3 hs
      exact C_iret C hI dX7_stiff_23
    · have hs := if_f cn hs
      refine lv_iload_n C.1 C.2.1 dX7_stiff_12 rfl (lv_at hl 2 rfl) ?_
      refine lv_bipush (v := 9) C.1 C.2.1 dX7_stiff_13 (by decide) ?_
      refine lv_icmp_le (tgt := 24) C.1 C.2.1 dX7_stiff_15 (by decide) (fun cn => ?_) (fun cn => ?_)
      · have hs := if_t cn hs
        refine lv_aload_n C.1 C.2.1 dX7_stiff_24 rfl (lv_at hl 0 rfl) ?_
        refine cg_X7_0 C hI dX7_stiff_25 ?_
        refine cg_X7_10 C hI dX7_stiff_28 ?_
        refine lv_iload_n C.1 C.2.1 dX7_stiff_31 rfl (lv_at hl 1 rfl) ?_
        obtain ⟨hk, hs⟩ := ck_e hs
        refine ca_10 C hI hk dX7_stiff_32 ?_
        refine lv_topi (fun x3_33 ex3_33 => ?_)
        have hs := gv_at ex3_33 hs
        refine lv_istore_n (lv' := [(3, .int x3_33), (0, .ref (q 99)), (1, .int x1), (2, .int x2)]) C.1 C.2.1 dX7_stiff_33 rfl hl (by decide) rfl (fun ls hl => ?_)
        refine lv_aload_n C.1 C.2.1 dX7_stiff_34 rfl (lv_at hl 1 rfl) ?_
        refine cg_X7_0 C hI dX7_stiff_35 ?_
        refine cg_X7_10 C hI dX7_stiff_38 ?_
        refine lv_iload_n C.1 C.2.1 dX7_stiff_41 rfl (lv_at hl 2 rfl) ?_
        refine lv_iload_n C.1 C.2.1 dX7_stiff_42 rfl (lv_at hl 3 rfl) ?_
        obtain ⟨hk, hs⟩ := ck_e hs
        refine cs_10 C hI hk dX7_stiff_43 (fun H locs hI => ?_)
        have hs := gv_be hs
        refine lv_aload_n C.1 C.2.1 dX7_stiff_44 rfl (lv_at hl 1 rfl) ?_
        refine lv_iload_n C.1 C.2.1 dX7_stiff_45 rfl (lv_at hl 0 rfl) ?_
        obtain ⟨⟨r_46, I⟩, hc, hs⟩ := bd_e hs
        refine C_call C hI (kX7_accept l D cy P0 q z tl xx _ _ _ _ _ _ _ hc) (rv_X7 hI) ml_X7_77 im_X7_accept se_X7_accept ini_X7 co_X7_accept hyX7_accept rfl ⟨by decide, by decide⟩ hl.1 rfl (Nat.le_of_ble_eq_true rfl) dX7_stiff_46 (fun H locs hI => ?_)
        obtain ⟨rfl, rfl, rfl⟩ := so3 hs
        exact C_iret C hI dX7_stiff_49
      · have hs := if_f cn hs
        refine lv_aload_n C.1 C.2.1 dX7_stiff_18 rfl (lv_at hl 0 rfl) ?_
        refine lv_iconst (v := -1) C.1 C.2.1 dX7_stiff_19 (by decide) ?_
        obtain ⟨⟨r_20, I⟩, hc, hs⟩ := bd_e hs
        refine C_call C hI (kX7_refuse l D cy P0 q z tl xx _ _ _ _ _ _ _ hc) (rv_X7 hI) ml_X7_70 im_X7_refuse se_X7_refuse ini_X7 co_X7_refuse hyX7_refuse rfl ⟨by decide, by decide⟩ hl.1 rfl (Nat.le_of_ble_eq_true rfl) dX7_stiff_20 (fun H locs hI => ?_)
        obtain ⟨rfl, rfl, rfl⟩ := so3 hs
        exact C_iret C hI dX7_stiff_23

def sX7_tier (x1 : Int32) (x2 : Int32) (x3 : Int32) (I : Nat → Int32) (J : Nat → Int64) (A : Nat → Nat → Int32) (B : Nat → Nat → Int64) : Option ((Int32) × (Nat → Int32) × (Nat → Nat → Int32)) :=
(sX7_isWithin x1 (0 : Int32) (5 : Int32)).bind fun r_3 =>
if r_3 = 0 then
((sX7_refuse (-1 : Int32) I J A B).bind fun (r_39, I) =>
some (r_39, I, A))
else
(sX7_isWithin x2 (0 : Int32) (1 : Int32)).bind fun r_12 =>
if r_12 = 0 then
((sX7_refuse (-1 : Int32) I J A B).bind fun (r_39, I) =>
some (r_39, I, A))
else
gv (if x2 = 0 then (20 : Int32) else (100000 : Int32)) fun v_31 =>
(sX7_isWithin x3 (0 : Int32) v_31).bind fun r_31 =>
if r_31 = 0 then
((sX7_refuse (-1 : Int32) I J A B).bind fun (r_39, I) =>
some (r_39, I, A))
else
if x2 = 0 then
(ck (inB x1 6) <|
gv (A 13 (ix x1)) fun x5_70 =>
ck (inB x1 6) <|
gv (va_up A 13 (upd (A 13) (ix x1) x3)) fun A =>
(sX7_accept x5_70 I J A B).bind fun (r_80, I) =>
some (r_80, I, A))
else
ck (inB x1 6) <|
gv (A 14 (ix x1)) fun x5_70 =>
ck (inB x1 6) <|
gv (va_up A 14 (upd (A 14) (ix x1) x3)) fun A =>
(sX7_accept x5_70 I J A B).bind fun (r_80, I) =>
some (r_80, I, A)
set_option maxRecDepth 100000 in
set_option maxHeartbeats 8000000 in
theorem kX7_tier (l : Launch) (D : va_G) (cy : Nat → ClassId) (P0 : Nat → Prop) (q z : Nat → Nat) (tl : va_W) (xx : (Nat → Option Nat) × (Nat → Option Nat) × Nat) (x1 : Int32) (x2 : Int32) (x3 : Int32) (I : Nat → Int32) (J : Nat → Int64) (A : Nat → Nat → Int32) (B : Nat → Nat → Int64) (r : Int32) (I2 : Nat → Int32) (A2 : Nat → Nat → Int32) (hs : sX7_tier x1 x2 x3 I J A B = some (r, I2, A2)) : McC l yX7_tier cX7_tier 6 (some .int) 1 [.ref (q 99), .int x1, .int x2, .int x3] D cy P0 q z tl xx I J A B (some (.int r)) xx I2 J A2 B := by
  refine C_start rfl (Nat.le_of_ble_eq_true rfl) ?_
  intro p e s m args below meth c H locs C hI ls hl
  have hl : lv_has ls 6 [(0, .ref (q 99)), (1, .int x1), (2, .int x2), (3, .int x3)] := hl
  rw [sX7_tier] at hs
  refine lv_iload_n C.1 C.2.1 dX7_tier_0 rfl (lv_at hl 1 rfl) ?_
  refine lv_iconst (v := 0) C.1 C.2.1 dX7_tier_1 (by decide) ?_
  refine lv_iconst (v := 5) C.1 C.2.1 dX7_tier_2 (by decide) ?_
  obtain ⟨r_3, hc, hs⟩ := bd_e hs
  refine S_call (h := 1) C (kX7_isWithin l _ _ _ _ hc) ml_X7_80 st_X7_isWithin ini_X7 co_X7_isWithin hyX7_isWithin rfl ⟨by decide, by decide⟩ hl.1 rfl (Nat.le_of_ble_eq_true rfl) dX7_tier_3 ⟨Nat.le_refl 0, Nat.le_refl 0, Nat.le_refl _, Nat.le_refl _⟩ ?_
  refine lv_if_eq (tgt := 37) C.1 C.2.1 dX7_tier_6 (by decide) (fun cn => ?_) (fun cn => ?_)
  · have hs := if_t cn hs
    refine lv_aload_n C.1 C.2.1 dX7_tier_37 rfl (lv_at hl 0 rfl) ?_
    refine lv_iconst (v := -1) C.1 C.2.1 dX7_tier_38 (by decide) ?_
    obtain ⟨⟨r_39, I⟩, hc, hs⟩ := bd_e hs
    refine C_call C hI (kX7_refuse l D cy P0 q z tl xx _ _ _ _ _ _ _ hc) (rv_X7 hI) ml_X7_70 im_X7_refuse se_X7_refuse ini_X7 co_X7_refuse hyX7_refuse rfl ⟨by decide, by decide⟩ hl.1 rfl (Nat.le_of_ble_eq_true rfl) dX7_tier_39 (fun H locs hI => ?_)
    obtain ⟨rfl, rfl, rfl⟩ := so3 hs
    exact C_iret C hI dX7_tier_42
  · have hs := if_f cn hs
    refine lv_iload_n C.1 C.2.1 dX7_tier_9 rfl (lv_at hl 2 rfl) ?_
    refine lv_iconst (v := 0) C.1 C.2.1 dX7_tier_10 (by decide) ?_
    refine lv_iconst (v := 1) C.1 C.2.1 dX7_tier_11 (by decide) ?_
    obtain ⟨r_12, hc, hs⟩ := bd_e hs
    refine S_call (h := 1) C (kX7_isWithin l _ _ _ _ hc) ml_X7_80 st_X7_isWithin ini_X7 co_X7_isWithin hyX7_isWithin rfl ⟨by decide, by decide⟩ hl.1 rfl (Nat.le_of_ble_eq_true rfl) dX7_tier_12 ⟨Nat.le_refl 0, Nat.le_refl 0, Nat.le_refl _, Nat.le_refl _⟩ ?_
    refine lv_if_eq (tgt := 37) C.1 C.2.1 dX7_tier_15 (by decide) (fun cn => ?_) (fun cn => ?_)
    · have hs := if_t cn hs
      refine lv_aload_n C.1 C.2.1 dX7_tier_37 rfl (lv_at hl 0 rfl) ?_
      refine lv_iconst (v := -1) C.1 C.2.1 dX7_tier_38 (by decide) ?_
      obtain ⟨⟨r_39, I⟩, hc, hs⟩ := bd_e hs
      refine C_call C hI (kX7_refuse l D cy P0 q z tl xx _ _ _ _ _ _ _ hc) (rv_X7 hI) ml_X7_70 im_X7_refuse se_X7_refuse ini_X7 co_X7_refuse hyX7_refuse rfl ⟨by decide, by decide⟩ hl.1 rfl (Nat.le_of_ble_eq_true rfl) dX7_tier_39 (fun H locs hI => ?_)
      obtain ⟨rfl, rfl, rfl⟩ := so3 hs
      exact C_iret C hI dX7_tier_42
    · have hs := if_f cn hs
      refine lv_iload_n C.1 C.2.1 dX7_tier_18 rfl (lv_at hl 3 rfl) ?_
      refine lv_iconst (v := 0) C.1 C.2.1 dX7_tier_19 (by decide) ?_
      refine lv_iload_n C.1 C.2.1 dX7_tier_20 rfl (lv_at hl 2 rfl) ?_
      obtain ⟨v_31, ev_31, hs⟩ := gv_ex hs
      have KP_31 : W p l e (rmL 1) s m args below meth c H locs 0 0 (MQ below (cQ D cy P0 q tl (some (.int r)) xx I2 J A2 B) args s 0 0 P0) (F0 m 31 ls [.int v_31, .int (0 : Int32), .int x3]) := by
        obtain ⟨r_31, hc, hs⟩ := bd_e hs
        refine S_call (h := 1) C (kX7_isWithin l _ _ _ _ hc) ml_X7_80 st_X7_isWithin ini_X7 co_X7_isWithin hyX7_isWithin rfl ⟨by decide, by decide⟩ hl.1 rfl (Nat.le_of_ble_eq_true rfl) dX7_tier_31 ⟨Nat.le_refl 0, Nat.le_refl 0, Nat.le_refl _, Nat.le_refl _⟩ ?_
        refine lv_if_ne (tgt := 43) C.1 C.2.1 dX7_tier_34 (by decide) (fun cn => ?_) (fun cn => ?_)
        · have hs := if_f cn hs
          refine lv_iload_n C.1 C.2.1 dX7_tier_43 rfl (lv_at hl 2 rfl) ?_
          refine lv_if_ne (tgt := 57) C.1 C.2.1 dX7_tier_44 (by decide) (fun cn => ?_) (fun cn => ?_)
          · have hs := if_f cn hs
            refine lv_aload_n C.1 C.2.1 dX7_tier_57 rfl (lv_at hl 0 rfl) ?_
            refine cg_X7_0 C hI dX7_tier_58 ?_
            refine cg_X7_14 C hI dX7_tier_61 ?_
            refine lv_astore (lv' := [(4, .ref (q 14)), (0, .ref (q 99)), (1, .int x1), (2, .int x2), (3, .int x3)]) C.1 C.2.1 dX7_tier_64 hl (by decide) rfl (fun ls hl => ?_)
            refine lv_aload C.1 C.2.1 dX7_tier_66 (lv_at hl 0 rfl) ?_
            refine lv_iload_n C.1 C.2.1 dX7_tier_68 rfl (lv_at hl 2 rfl) ?_
            obtain ⟨hk, hs⟩ := ck_e hs
            refine ca_14 C hI hk dX7_tier_69 ?_
            refine lv_topi (fun x5_70 ex5_70 => ?_)
            have hs := gv_at ex5_70 hs
            refine lv_istore (lv' := [(5, .int x5_70), (4, .ref (q 14)), (0, .ref (q 99)), (1, .int x1), (2, .int x2), (3, .int x3)]) C.1 C.2.1 dX7_tier_70 hl (by decide) rfl (fun ls hl => ?_)
            refine lv_aload C.1 C.2.1 dX7_tier_72 (lv_at hl 1 rfl) ?_
            refine lv_iload_n C.1 C.2.1 dX7_tier_74 rfl (lv_at hl 3 rfl) ?_
            refine lv_iload_n C.1 C.2.1 dX7_tier_75 rfl (lv_at hl 5 rfl) ?_
            obtain ⟨hk, hs⟩ := ck_e hs
            refine cs_14 C hI hk dX7_tier_76 (fun H locs hI => ?_)
            have hs := gv_be hs
            refine lv_aload_n C.1 C.2.1 dX7_tier_77 rfl (lv_at hl 2 rfl) ?_
            refine lv_iload C.1 C.2.1 dX7_tier_78 (lv_at hl 0 rfl) ?_
            obtain ⟨⟨r_80, I⟩, hc, hs⟩ := bd_e hs
            refine C_call C hI (kX7_accept l D cy P0 q z tl xx _ _ _ _ _ _ _ hc) (rv_X7 hI) ml_X7_77 im_X7_accept se_X7_accept ini_X7 co_X7_accept hyX7_accept rfl ⟨by decide, by decide⟩ hl.1 rfl (Nat.le_of_ble_eq_true rfl) dX7_tier_80 (fun H locs hI => ?_)
            obtain ⟨rfl, rfl, rfl⟩ := so3 hs
            exact C_iret C hI dX7_tier_83
          · have hs := if_t cn hs
            refine lv_aload_n C.1 C.2.1 dX7_tier_47 rfl (lv_at hl 0 rfl) ?_
            refine cg_X7_0 C hI dX7_tier_48 ?_
            refine cg_X7_13 C hI dX7_tier_51 ?_
            refine lv_goto (tgt := 64) C.1 C.2.1 dX7_tier_54 (by decide) ?_
            refine lv_astore (lv' := [(4, .ref (q 13)), (0, .ref (q 99)), (1, .int x1), (2, .int x2), (3, .int x3)]) C.1 C.2.1 dX7_tier_64 hl (by decide) rfl (fun ls hl => ?_)
            refine lv_aload C.1 C.2.1 dX7_tier_66 (lv_at hl 0 rfl) ?_
            refine lv_iload_n C.1 C.2.1 dX7_tier_68 rfl (lv_at hl 2 rfl) ?_
            obtain ⟨hk, hs⟩ := ck_e hs
            refine ca_13 C hI hk dX7_tier_69 ?_
            refine lv_topi (fun x5_70 ex5_70 => ?_)
            have hs := gv_at ex5_70 hs
            refine lv_istore (lv' := [(5, .int x5_70), (4, .ref (q 13)), (0, .ref (q 99)), (1, .int x1), (2, .int x2), (3, .int x3)]) C.1 C.2.1 dX7_tier_70 hl (by decide) rfl (fun ls hl => ?_)
            refine lv_aload C.1 C.2.1 dX7_tier_72 (lv_at hl 1 rfl) ?_
            refine lv_iload_n C.1 C.2.1 dX7_tier_74 rfl (lv_at hl 3 rfl) ?_
            refine lv_iload_n C.1 C.2.1 dX7_tier_75 rfl (lv_at hl 5 rfl) ?_
            obtain ⟨hk, hs⟩ := ck_e hs
            refine cs_13 C hI hk dX7_tier_76 (fun H locs hI => ?_)
            have hs := gv_be hs
            refine lv_aload_n C.1 C.2.1 dX7_tier_77 rfl (lv_at hl 2 rfl) ?_
            refine lv_iload C.1 C.2.1 dX7_tier_78 (lv_at hl 0 rfl) ?_
            obtain ⟨⟨r_80, I⟩, hc, hs⟩ := bd_e hs
            refine C_call C hI (kX7_accept l D cy P0 q z tl xx _ _ _ _ _ _ _ hc) (rv_X7 hI) ml_X7_77 im_X7_accept se_X7_accept ini_X7 co_X7_accept hyX7_accept rfl ⟨by decide, by decide⟩ hl.1 rfl (Nat.le_of_ble_eq_true rfl) dX7_tier_80 (fun H locs hI => ?_)
            obtain ⟨rfl, rfl, rfl⟩ := so3 hs
            exact C_iret C hI dX7_tier_83
        · have hs := if_t cn hs
          refine lv_aload_n C.1 C.2.1 dX7_tier_37 rfl (lv_at hl 0 rfl) ?_
          refine lv_iconst (v := -1) C.1 C.2.1 dX7_tier_38 (by decide) ?_
          obtain ⟨⟨r_39, I⟩, hc, hs⟩ := bd_e hs
          refine C_call C hI (kX7_refuse l D cy P0 q z tl xx _ _ _ _ _ _ _ hc) (rv_X7 hI) ml_X7_70 im_X7_refuse se_X7_refuse ini_X7 co_X7_refuse hyX7_refuse rfl ⟨by decide, by decide⟩ hl.1 rfl (Nat.le_of_ble_eq_true rfl) dX7_tier_39 (fun H locs hI => ?_)
          obtain ⟨rfl, rfl, rfl⟩ := so3 hs
          exact C_iret C hI dX7_tier_42
      refine lv_if_ne (tgt := 29) C.1 C.2.1 dX7_tier_21 (by decide) (fun cn => ?_) (fun cn => ?_)
      · have ev_31 := if_f' cn ev_31
        refine lv_ldc C.1 C.2.1 C.2.2.2.1 (C.2.2.2.2.1 _ kc_X7_84) dX7_tier_29 ?_
        subst ev_31
        exact KP_31
      · have ev_31 := if_t' cn ev_31
        refine lv_bipush (v := 20) C.1 C.2.1 dX7_tier_24 (by decide) ?_
        refine lv_goto (tgt := 31) C.1 C.2.1 dX7_tier_26 (by decide) ?_
        subst ev_31
        exact KP_31

def sX7_terms (x1 : Int32) (x2 : Int32) (I : Nat → Int32) (J : Nat → Int64) (A : Nat → Nat → Int32) (B : Nat → Nat → Int64) : Option ((Int32) × (Nat → Int32) × (Nat → Nat → Int32)) :=
(sX7_isWithin x1 (0 : Int32) (8 : Int32)).bind fun r_4 =>
if r_4 = 0 then
((sX7_refuse (-1 : Int32) I J A B).bind fun (r_29, I) =>
some (r_29, I, A))
else
ck (inB x1 9) <|
ck (inB x1 9) <|
(sX7_isWithin x2 (sv_0 (ix x1)) (sv_1 (ix x1))).bind fun r_21 =>
if r_21 = 0 then
((sX7_refuse (-1 : Int32) I J A B).bind fun (r_29, I) =>
some (r_29, I, A))
else
gv (if x1 = 0 then x2 else (A 15 (ix (0 : Int32)))) fun v_50 =>
gv (if x1 = (1 : Int32) then x2 else (A 15 (ix (1 : Int32)))) fun v_69 =>
if v_69 ≤ v_50 then
(ck (inB x1 9) <|
gv (A 15 (ix x1)) fun x5_93 =>
ck (inB x1 9) <|
gv (va_up A 15 (upd (A 15) (ix x1) x2)) fun A =>
(sX7_accept x5_93 I J A B).bind fun (r_108, I) =>
some (r_108, I, A))
else
(sX7_refuse (-3 : Int32) I J A B).bind fun (r_80, I) =>
some (r_80, I, A)
set_option maxRecDepth 100000 in
set_option maxHeartbeats 8000000 in
theorem kX7_terms (l : Launch) (D : va_G) (cy : Nat → ClassId) (P0 : Nat → Prop) (q z : Nat → Nat) (tl : va_W) (xx : (Nat → Option Nat) × (Nat → Option Nat) × Nat) (x1 : Int32) (x2 : Int32) (I : Nat → Int32) (J : Nat → Int64) (A : Nat → Nat → Int32) (B : Nat → Nat → Int64) (r : Int32) (I2 : Nat → Int32) (A2 : Nat → Nat → Int32) (hs : sX7_terms x1 x2 I J A B = some (r, I2, A2)) : McC l yX7_terms cX7_terms 6 (some .int) 1 [.ref (q 99), .int x1, .int x2] D cy P0 q z tl xx I J A B (some (.int r)) xx I2 J A2 B := by
  refine C_start rfl (Nat.le_of_ble_eq_true rfl) ?_
  intro p e s m args below meth c H locs C hI ls hl
  have hl : lv_has ls 6 [(0, .ref (q 99)), (1, .int x1), (2, .int x2)] := hl
  rw [sX7_terms] at hs
  refine lv_iload_n C.1 C.2.1 dX7_terms_0 rfl (lv_at hl 1 rfl) ?_
  refine lv_iconst (v := 0) C.1 C.2.1 dX7_terms_1 (by decide) ?_
  refine lv_bipush (v := 8) C.1 C.2.1 dX7_terms_2 (by decide) ?_
  obtain ⟨r_4, hc, hs⟩ := bd_e hs
  refine S_call (h := 1) C (kX7_isWithin l _ _ _ _ hc) ml_X7_80 st_X7_isWithin ini_X7 co_X7_isWithin hyX7_isWithin rfl ⟨by decide, by decide⟩ hl.1 rfl (Nat.le_of_ble_eq_true rfl) dX7_terms_4 ⟨Nat.le_refl 0, Nat.le_refl 0, Nat.le_refl _, Nat.le_refl _⟩ ?_
  refine lv_if_eq (tgt := 27) C.1 C.2.1 dX7_terms_7 (by decide) (fun cn => ?_) (fun cn => ?_)
  · have hs := if_t cn hs
    refine lv_aload_n C.1 C.2.1 dX7_terms_27 rfl (lv_at hl 0 rfl) ?_
    refine lv_iconst (v := -1) C.1 C.2.1 dX7_terms_28 (by decide) ?_
    obtain ⟨⟨r_29, I⟩, hc, hs⟩ := bd_e hs
    refine C_call C hI (kX7_refuse l D cy P0 q z tl xx _ _ _ _ _ _ _ hc) (rv_X7 hI) ml_X7_70 im_X7_refuse se_X7_refuse ini_X7 co_X7_refuse hyX7_refuse rfl ⟨by decide, by decide⟩ hl.1 rfl (Nat.le_of_ble_eq_true rfl) dX7_terms_29 (fun H locs hI => ?_)
    obtain ⟨rfl, rfl, rfl⟩ := so3 hs
    exact C_iret C hI dX7_terms_32
  · have hs := if_f cn hs
    refine lv_iload_n C.1 C.2.1 dX7_terms_10 rfl (lv_at hl 2 rfl) ?_
    refine cz_X7_0 C hI dX7_terms_11 ?_
    refine lv_iload_n C.1 C.2.1 dX7_terms_14 rfl (lv_at hl 1 rfl) ?_
    obtain ⟨hk, hs⟩ := ck_e hs
    refine ct_0 C hI hk dX7_terms_15 ?_
    refine cz_X7_1 C hI dX7_terms_16 ?_
    refine lv_iload_n C.1 C.2.1 dX7_terms_19 rfl (lv_at hl 1 rfl) ?_
    obtain ⟨hk, hs⟩ := ck_e hs
    refine ct_1 C hI hk dX7_terms_20 ?_
    obtain ⟨r_21, hc, hs⟩ := bd_e hs
    refine S_call (h := 1) C (kX7_isWithin l _ _ _ _ hc) ml_X7_80 st_X7_isWithin ini_X7 co_X7_isWithin hyX7_isWithin rfl ⟨by decide, by decide⟩ hl.1 rfl (Nat.le_of_ble_eq_true rfl) dX7_terms_21 ⟨Nat.le_refl 0, Nat.le_refl 0, Nat.le_refl _, Nat.le_refl _⟩ ?_
    refine lv_if_ne (tgt := 33) C.1 C.2.1 dX7_terms_24 (by decide) (fun cn => ?_) (fun cn => ?_)
    · have hs := if_f cn hs
      refine lv_iload_n C.1 C.2.1 dX7_terms_33 rfl (lv_at hl 1 rfl) ?_
      obtain ⟨v_50, ev_50, hs⟩ := gv_ex hs
      have KP_50 : W p l e (rmL 1) s m args below meth c H locs 0 0 (MQ below (cQ D cy P0 q tl (some (.int r)) xx I2 J A2 B) args s 0 0 P0) (F0 m 50 ls [.int v_50]) := by
        refine lv_istore_n (lv' := [(3, .int v_50), (0, .ref (q 99)), (1, .int x1), (2, .int x2)]) C.1 C.2.1 dX7_terms_50 rfl hl (by decide) rfl (fun ls hl => ?_)
        refine lv_iload_n C.1 C.2.1 dX7_terms_51 rfl (lv_at hl 2 rfl) ?_
        refine lv_iconst (v := 1) C.1 C.2.1 dX7_terms_52 (by decide) ?_
        obtain ⟨v_69, ev_69, hs⟩ := gv_ex hs
        have KP_69 : W p l e (rmL 1) s m args below meth c H locs 0 0 (MQ below (cQ D cy P0 q tl (some (.int r)) xx I2 J A2 B) args s 0 0 P0) (F0 m 69 ls [.int v_69]) := by
          refine lv_istore (lv' := [(4, .int v_69), (3, .int v_50), (0, .ref (q 99)), (1, .int x1), (2, .int x2)]) C.1 C.2.1 dX7_terms_69 hl (by decide) rfl (fun ls hl => ?_)
          refine lv_iload C.1 C.2.1 dX7_terms_71 (lv_at hl 0 rfl) ?_
          refine lv_iload_n C.1 C.2.1 dX7_terms_73 rfl (lv_at hl 1 rfl) ?_
          refine lv_icmp_le (tgt := 84) C.1 C.2.1 dX7_terms_74 (by decide) (fun cn => ?_) (fun cn => ?_)
          · have hs := if_t cn hs
            refine lv_aload_n C.1 C.2.1 dX7_terms_84 rfl (lv_at hl 2 rfl) ?_
            refine cg_X7_0 C hI dX7_terms_85 ?_
            refine cg_X7_15 C hI dX7_terms_88 ?_
            refine lv_iload_n C.1 C.2.1 dX7_terms_91 rfl (lv_at hl 3 rfl) ?_
            obtain ⟨hk, hs⟩ := ck_e hs
            refine ca_15 C hI hk dX7_terms_92 ?_
            refine lv_topi (fun x5_93 ex5_93 => ?_)
            have hs := gv_at ex5_93 hs
            refine lv_istore (lv' := [(5, .int x5_93), (4, .int v_69), (3, .int v_50), (0, .ref (q 99)), (1, .int x1), (2, .int x2)]) C.1 C.2.1 dX7_terms_93 hl (by decide) rfl (fun ls hl => ?_)
            refine lv_aload_n C.1 C.2.1 dX7_terms_95 rfl (lv_at hl 3 rfl) ?_
            refine cg_X7_0 C hI dX7_terms_96 ?_
            refine cg_X7_15 C hI dX7_terms_99 ?_
            refine lv_iload_n C.1 C.2.1 dX7_terms_102 rfl (lv_at hl 4 rfl) ?_
            refine lv_iload_n C.1 C.2.1 dX7_terms_103 rfl (lv_at hl 5 rfl) ?_
            obtain ⟨hk, hs⟩ := ck_e hs
            refine cs_15 C hI hk dX7_terms_104 (fun H locs hI => ?_)
            have hs := gv_be hs
            refine lv_aload_n C.1 C.2.1 dX7_terms_105 rfl (lv_at hl 3 rfl) ?_
            refine lv_iload C.1 C.2.1 dX7_terms_106 (lv_at hl 0 rfl) ?_
            obtain ⟨⟨r_108, I⟩, hc, hs⟩ := bd_e hs
            refine C_call C hI (kX7_accept l D cy P0 q z tl xx _ _ _ _ _ _ _ hc) (rv_X7 hI) ml_X7_77 im_X7_accept se_X7_accept ini_X7 co_X7_accept hyX7_accept rfl ⟨by decide, by decide⟩ hl.1 rfl (Nat.le_of_ble_eq_true rfl) dX7_terms_108 (fun H locs hI => ?_)
            obtain ⟨rfl, rfl, rfl⟩ := so3 hs
            exact C_iret C hI dX7_terms_111
          · have hs := if_f cn hs
            refine lv_aload_n C.1 C.2.1 dX7_terms_77 rfl (lv_at hl 2 rfl) ?_
            refine lv_bipush (v := -3) C.1 C.2.1 dX7_terms_78 (by decide) ?_
            obtain ⟨⟨r_80, I⟩, hc, hs⟩ := bd_e hs
            refine C_call C hI (kX7_refuse l D cy P0 q z tl xx _ _ _ _ _ _ _ hc) (rv_X7 hI) ml_X7_70 im_X7_refuse se_X7_refuse ini_X7 co_X7_refuse hyX7_refuse rfl ⟨by decide, by decide⟩ hl.1 rfl (Nat.le_of_ble_eq_true rfl) dX7_terms_80 (fun H locs hI => ?_)
            obtain ⟨rfl, rfl, rfl⟩ := so3 hs
            exact C_iret C hI dX7_terms_83
        refine lv_icmp_ne (tgt := 60) C.1 C.2.1 dX7_terms_53 (by decide) (fun cn => ?_) (fun cn => ?_)
        · have ev_69 := if_f' cn ev_69
          refine lv_aload_n C.1 C.2.1 dX7_terms_60 rfl (lv_at hl 1 rfl) ?_
          refine cg_X7_0 C hI dX7_terms_61 ?_
          refine cg_X7_15 C hI dX7_terms_64 ?_
          refine lv_iconst (v := 1) C.1 C.2.1 dX7_terms_67 (by decide) ?_
          refine ca_15 C hI (by decide) dX7_terms_68 ?_
          subst ev_69
          exact KP_69
        · have ev_69 := if_t' cn ev_69
          refine lv_iload_n C.1 C.2.1 dX7_terms_56 rfl (lv_at hl 3 rfl) ?_
          refine lv_goto (tgt := 69) C.1 C.2.1 dX7_terms_57 (by decide) ?_
          subst ev_69
          exact KP_69
      refine lv_if_ne (tgt := 41) C.1 C.2.1 dX7_terms_34 (by decide) (fun cn => ?_) (fun cn => ?_)
      · have ev_50 := if_f' cn ev_50
        refine lv_aload_n C.1 C.2.1 dX7_terms_41 rfl (lv_at hl 0 rfl) ?_
        refine cg_X7_0 C hI dX7_terms_42 ?_
        refine cg_X7_15 C hI dX7_terms_45 ?_
        refine lv_iconst (v := 0) C.1 C.2.1 dX7_terms_48 (by decide) ?_
        refine ca_15 C hI (by decide) dX7_terms_49 ?_
        subst ev_50
        exact KP_50
      · have ev_50 := if_t' cn ev_50
        refine lv_iload_n C.1 C.2.1 dX7_terms_37 rfl (lv_at hl 2 rfl) ?_
        refine lv_goto (tgt := 50) C.1 C.2.1 dX7_terms_38 (by decide) ?_
        subst ev_50
        exact KP_50
    · have hs := if_t cn hs
      refine lv_aload_n C.1 C.2.1 dX7_terms_27 rfl (lv_at hl 0 rfl) ?_
      refine lv_iconst (v := -1) C.1 C.2.1 dX7_terms_28 (by decide) ?_
      obtain ⟨⟨r_29, I⟩, hc, hs⟩ := bd_e hs
      refine C_call C hI (kX7_refuse l D cy P0 q z tl xx _ _ _ _ _ _ _ hc) (rv_X7 hI) ml_X7_70 im_X7_refuse se_X7_refuse ini_X7 co_X7_refuse hyX7_refuse rfl ⟨by decide, by decide⟩ hl.1 rfl (Nat.le_of_ble_eq_true rfl) dX7_terms_29 (fun H locs hI => ?_)
      obtain ⟨rfl, rfl, rfl⟩ := so3 hs
      exact C_iret C hI dX7_terms_32

def sX7_plate (x1 : Int32) (x2 : Int32) (I : Nat → Int32) (J : Nat → Int64) (A : Nat → Nat → Int32) (B : Nat → Nat → Int64) : Option ((Int32) × (Nat → Int32) × (Nat → Nat → Int32)) :=
(sX7_isJoint x1).bind fun r_1 =>
if r_1 = 0 then
((sX7_refuse (-1 : Int32) I J A B).bind fun (r_18, I) =>
some (r_18, I, A))
else
(sX7_isWithin x2 (0 : Int32) (4 : Int32)).bind fun r_10 =>
if r_10 = 0 then
((sX7_refuse (-1 : Int32) I J A B).bind fun (r_18, I) =>
some (r_18, I, A))
else
ck (inB x1 48) <|
if (A 11 (ix x1)) = 0 then
((sX7_refuse (-3 : Int32) I J A B).bind fun (r_37, I) =>
some (r_37, I, A))
else
ck (inB x1 48) <|
gv (A 12 (ix x1)) fun x3_50 =>
ck (inB x1 48) <|
gv (va_up A 12 (upd (A 12) (ix x1) x2)) fun A =>
(sX7_accept x3_50 I J A B).bind fun (r_63, I) =>
some (r_63, I, A)
set_option maxRecDepth 100000 in
set_option maxHeartbeats 8000000 in
theorem kX7_plate (l : Launch) (D : va_G) (cy : Nat → ClassId) (P0 : Nat → Prop) (q z : Nat → Nat) (tl : va_W) (xx : (Nat → Option Nat) × (Nat → Option Nat) × Nat) (x1 : Int32) (x2 : Int32) (I : Nat → Int32) (J : Nat → Int64) (A : Nat → Nat → Int32) (B : Nat → Nat → Int64) (r : Int32) (I2 : Nat → Int32) (A2 : Nat → Nat → Int32) (hs : sX7_plate x1 x2 I J A B = some (r, I2, A2)) : McC l yX7_plate cX7_plate 4 (some .int) 1 [.ref (q 99), .int x1, .int x2] D cy P0 q z tl xx I J A B (some (.int r)) xx I2 J A2 B := by
  refine C_start rfl (Nat.le_of_ble_eq_true rfl) ?_
  intro p e s m args below meth c H locs C hI ls hl
  have hl : lv_has ls 4 [(0, .ref (q 99)), (1, .int x1), (2, .int x2)] := hl
  rw [sX7_plate] at hs
  refine lv_iload_n C.1 C.2.1 dX7_plate_0 rfl (lv_at hl 1 rfl) ?_
  obtain ⟨r_1, hc, hs⟩ := bd_e hs
  refine S_call (h := 1) C (kX7_isJoint l _ _ hc) ml_X7_66 st_X7_isJoint ini_X7 co_X7_isJoint hyX7_isJoint rfl ⟨by decide, by decide⟩ hl.1 rfl (Nat.le_of_ble_eq_true rfl) dX7_plate_1 ⟨Nat.le_refl 0, Nat.le_refl 0, Nat.le_refl _, Nat.le_refl _⟩ ?_
  refine lv_if_eq (tgt := 16) C.1 C.2.1 dX7_plate_4 (by decide) (fun cn => ?_) (fun cn => ?_)
  · have hs := if_t cn hs
    refine lv_aload_n C.1 C.2.1 dX7_plate_16 rfl (lv_at hl 0 rfl) ?_
    refine lv_iconst (v := -1) C.1 C.2.1 dX7_plate_17 (by decide) ?_
    obtain ⟨⟨r_18, I⟩, hc, hs⟩ := bd_e hs
    refine C_call C hI (kX7_refuse l D cy P0 q z tl xx _ _ _ _ _ _ _ hc) (rv_X7 hI) ml_X7_70 im_X7_refuse se_X7_refuse ini_X7 co_X7_refuse hyX7_refuse rfl ⟨by decide, by decide⟩ hl.1 rfl (Nat.le_of_ble_eq_true rfl) dX7_plate_18 (fun H locs hI => ?_)
    obtain ⟨rfl, rfl, rfl⟩ := so3 hs
    exact C_iret C hI dX7_plate_21
  · have hs := if_f cn hs
    refine lv_iload_n C.1 C.2.1 dX7_plate_7 rfl (lv_at hl 2 rfl) ?_
    refine lv_iconst (v := 0) C.1 C.2.1 dX7_plate_8 (by decide) ?_
    refine lv_iconst (v := 4) C.1 C.2.1 dX7_plate_9 (by decide) ?_
    obtain ⟨r_10, hc, hs⟩ := bd_e hs
    refine S_call (h := 1) C (kX7_isWithin l _ _ _ _ hc) ml_X7_80 st_X7_isWithin ini_X7 co_X7_isWithin hyX7_isWithin rfl ⟨by decide, by decide⟩ hl.1 rfl (Nat.le_of_ble_eq_true rfl) dX7_plate_10 ⟨Nat.le_refl 0, Nat.le_refl 0, Nat.le_refl _, Nat.le_refl _⟩ ?_
    refine lv_if_ne (tgt := 22) C.1 C.2.1 dX7_plate_13 (by decide) (fun cn => ?_) (fun cn => ?_)
    · have hs := if_f cn hs
      refine lv_aload_n C.1 C.2.1 dX7_plate_22 rfl (lv_at hl 0 rfl) ?_
      refine cg_X7_0 C hI dX7_plate_23 ?_
      refine cg_X7_11 C hI dX7_plate_26 ?_
      refine lv_iload_n C.1 C.2.1 dX7_plate_29 rfl (lv_at hl 1 rfl) ?_
      obtain ⟨hk, hs⟩ := ck_e hs
      refine ca_11 C hI hk dX7_plate_30 ?_
      refine lv_if_ne (tgt := 41) C.1 C.2.1 dX7_plate_31 (by decide) (fun cn => ?_) (fun cn => ?_)
      · have hs := if_f cn hs
        refine lv_aload_n C.1 C.2.1 dX7_plate_41 rfl (lv_at hl 0 rfl) ?_
        refine cg_X7_0 C hI dX7_plate_42 ?_
        refine cg_X7_12 C hI dX7_plate_45 ?_
        refine lv_iload_n C.1 C.2.1 dX7_plate_48 rfl (lv_at hl 1 rfl) ?_
        obtain ⟨hk, hs⟩ := ck_e hs
        refine ca_12 C hI hk dX7_plate_49 ?_
        refine lv_topi (fun x3_50 ex3_50 => ?_)
        have hs := gv_at ex3_50 hs
        refine lv_istore_n (lv' := [(3, .int x3_50), (0, .ref (q 99)), (1, .int x1), (2, .int x2)]) C.1 C.2.1 dX7_plate_50 rfl hl (by decide) rfl (fun ls hl => ?_)
        refine lv_aload_n C.1 C.2.1 dX7_plate_51 rfl (lv_at hl 1 rfl) ?_
        refine cg_X7_0 C hI dX7_plate_52 ?_
        refine cg_X7_12 C hI dX7_plate_55 ?_
        refine lv_iload_n C.1 C.2.1 dX7_plate_58 rfl (lv_at hl 2 rfl) ?_
        refine lv_iload_n C.1 C.2.1 dX7_plate_59 rfl (lv_at hl 3 rfl) ?_
        obtain ⟨hk, hs⟩ := ck_e hs
        refine cs_12 C hI hk dX7_plate_60 (fun H locs hI => ?_)
        have hs := gv_be hs
        refine lv_aload_n C.1 C.2.1 dX7_plate_61 rfl (lv_at hl 1 rfl) ?_
        refine lv_iload_n C.1 C.2.1 dX7_plate_62 rfl (lv_at hl 0 rfl) ?_
        obtain ⟨⟨r_63, I⟩, hc, hs⟩ := bd_e hs
        refine C_call C hI (kX7_accept l D cy P0 q z tl xx _ _ _ _ _ _ _ hc) (rv_X7 hI) ml_X7_77 im_X7_accept se_X7_accept ini_X7 co_X7_accept hyX7_accept rfl ⟨by decide, by decide⟩ hl.1 rfl (Nat.le_of_ble_eq_true rfl) dX7_plate_63 (fun H locs hI => ?_)
        obtain ⟨rfl, rfl, rfl⟩ := so3 hs
        exact C_iret C hI dX7_plate_66
      · have hs := if_t cn hs
        refine lv_aload_n C.1 C.2.1 dX7_plate_34 rfl (lv_at hl 0 rfl) ?_
        refine lv_bipush (v := -3) C.1 C.2.1 dX7_plate_35 (by decide) ?_
        obtain ⟨⟨r_37, I⟩, hc, hs⟩ := bd_e hs
        refine C_call C hI (kX7_refuse l D cy P0 q z tl xx _ _ _ _ _ _ _ hc) (rv_X7 hI) ml_X7_70 im_X7_refuse se_X7_refuse ini_X7 co_X7_refuse hyX7_refuse rfl ⟨by decide, by decide⟩ hl.1 rfl (Nat.le_of_ble_eq_true rfl) dX7_plate_37 (fun H locs hI => ?_)
        obtain ⟨rfl, rfl, rfl⟩ := so3 hs
        exact C_iret C hI dX7_plate_40
    · have hs := if_t cn hs
      refine lv_aload_n C.1 C.2.1 dX7_plate_16 rfl (lv_at hl 0 rfl) ?_
      refine lv_iconst (v := -1) C.1 C.2.1 dX7_plate_17 (by decide) ?_
      obtain ⟨⟨r_18, I⟩, hc, hs⟩ := bd_e hs
      refine C_call C hI (kX7_refuse l D cy P0 q z tl xx _ _ _ _ _ _ _ hc) (rv_X7 hI) ml_X7_70 im_X7_refuse se_X7_refuse ini_X7 co_X7_refuse hyX7_refuse rfl ⟨by decide, by decide⟩ hl.1 rfl (Nat.le_of_ble_eq_true rfl) dX7_plate_18 (fun H locs hI => ?_)
      obtain ⟨rfl, rfl, rfl⟩ := so3 hs
      exact C_iret C hI dX7_plate_21

def sX7_joint (x1 : Int32) (x2 : Int32) (I : Nat → Int32) (J : Nat → Int64) (A : Nat → Nat → Int32) (B : Nat → Nat → Int64) : Option ((Int32)) :=
(sX7_isJoint x1).bind fun r_1 =>
if r_1 = 0 then
(some (-1 : Int32))
else
if x2 = 0 then
(ck (inB x1 48) <|
some (A 11 (ix x1)))
else
if x2 = 1 then
(ck (inB x1 48) <|
some (A 12 (ix x1)))
else
if x2 = 2 then
((sX4_holdOf x1 I J A B).bind fun r_65 =>
some r_65)
else
if x2 = 3 then
(ck (inB x1 48) <|
some (A 10 (ix x1)))
else
some (-1 : Int32)
set_option maxRecDepth 100000 in
set_option maxHeartbeats 8000000 in
theorem kX7_joint (l : Launch) (D : va_G) (cy : Nat → ClassId) (P0 : Nat → Prop) (q z : Nat → Nat) (tl : va_W) (xx : (Nat → Option Nat) × (Nat → Option Nat) × Nat) (x1 : Int32) (x2 : Int32) (I : Nat → Int32) (J : Nat → Int64) (A : Nat → Nat → Int32) (B : Nat → Nat → Int64) (r : Int32) (hs : sX7_joint x1 x2 I J A B = some r) : McC l yX7_joint cX7_joint 3 (some .int) 1 [.ref (q 99), .int x1, .int x2] D cy P0 q z tl xx I J A B (some (.int r)) xx I J A B := by
  refine C_start rfl (Nat.le_of_ble_eq_true rfl) ?_
  intro p e s m args below meth c H locs C hI ls hl
  have hl : lv_has ls 3 [(0, .ref (q 99)), (1, .int x1), (2, .int x2)] := hl
  rw [sX7_joint] at hs
  refine lv_iload_n C.1 C.2.1 dX7_joint_0 rfl (lv_at hl 1 rfl) ?_
  obtain ⟨r_1, hc, hs⟩ := bd_e hs
  refine S_call (h := 1) C (kX7_isJoint l _ _ hc) ml_X7_66 st_X7_isJoint ini_X7 co_X7_isJoint hyX7_isJoint rfl ⟨by decide, by decide⟩ hl.1 rfl (Nat.le_of_ble_eq_true rfl) dX7_joint_1 ⟨Nat.le_refl 0, Nat.le_refl 0, Nat.le_refl _, Nat.le_refl _⟩ ?_
  refine lv_if_ne (tgt := 9) C.1 C.2.1 dX7_joint_4 (by decide) (fun cn => ?_) (fun cn => ?_)
  · have hs := if_f cn hs
    refine lv_iload_n C.1 C.2.1 dX7_joint_9 rfl (lv_at hl 2 rfl) ?_
    by_cases c0 : x2 = 0
    · have hs := if_t c0 hs
      refine lv_tableIn (off := 30) (tgt := 40) C.1 C.2.1 dX7_joint_10 (by rw [c0]; decide) (by rw [c0]; decide) (by rw [c0]; rfl) (by decide) ?_
      refine lv_aload_n C.1 C.2.1 dX7_joint_40 rfl (lv_at hl 0 rfl) ?_
      refine cg_X7_0 C hI dX7_joint_41 ?_
      refine cg_X7_11 C hI dX7_joint_44 ?_
      refine lv_iload_n C.1 C.2.1 dX7_joint_47 rfl (lv_at hl 1 rfl) ?_
      obtain ⟨hk, hs⟩ := ck_e hs
      refine ca_11 C hI hk dX7_joint_48 ?_
      obtain rfl := Option.some.inj hs
      exact C_iret C hI dX7_joint_49
    have hs := if_f c0 hs
    by_cases c1 : x2 = 1
    · have hs := if_t c1 hs
      refine lv_tableIn (off := 40) (tgt := 50) C.1 C.2.1 dX7_joint_10 (by rw [c1]; decide) (by rw [c1]; decide) (by rw [c1]; rfl) (by decide) ?_
      refine lv_aload_n C.1 C.2.1 dX7_joint_50 rfl (lv_at hl 0 rfl) ?_
      refine cg_X7_0 C hI dX7_joint_51 ?_
      refine cg_X7_12 C hI dX7_joint_54 ?_
      refine lv_iload_n C.1 C.2.1 dX7_joint_57 rfl (lv_at hl 1 rfl) ?_
      obtain ⟨hk, hs⟩ := ck_e hs
      refine ca_12 C hI hk dX7_joint_58 ?_
      obtain rfl := Option.some.inj hs
      exact C_iret C hI dX7_joint_59
    have hs := if_f c1 hs
    by_cases c2 : x2 = 2
    · have hs := if_t c2 hs
      refine lv_tableIn (off := 50) (tgt := 60) C.1 C.2.1 dX7_joint_10 (by rw [c2]; decide) (by rw [c2]; decide) (by rw [c2]; rfl) (by decide) ?_
      refine lv_aload_n C.1 C.2.1 dX7_joint_60 rfl (lv_at hl 0 rfl) ?_
      refine cg_X7_0 C hI dX7_joint_61 ?_
      refine lv_iload_n C.1 C.2.1 dX7_joint_64 rfl (lv_at hl 1 rfl) ?_
      obtain ⟨r_65, hc, hs⟩ := bd_e hs
      refine C_call C hI (kX4_holdOf l D cy P0 q z tl xx _ _ _ _ _ _ hc) (rv_X4 hI) ml_X7_130 im_X4_holdOf se_X4_holdOf ini_X4 co_X4_holdOf hyX4_holdOf rfl ⟨by decide, by decide⟩ hl.1 rfl (Nat.le_of_ble_eq_true rfl) dX7_joint_65 (fun H locs hI => ?_)
      obtain rfl := Option.some.inj hs
      exact C_iret C hI dX7_joint_68
    have hs := if_f c2 hs
    by_cases c3 : x2 = 3
    · have hs := if_t c3 hs
      refine lv_tableIn (off := 59) (tgt := 69) C.1 C.2.1 dX7_joint_10 (by rw [c3]; decide) (by rw [c3]; decide) (by rw [c3]; rfl) (by decide) ?_
      refine lv_aload_n C.1 C.2.1 dX7_joint_69 rfl (lv_at hl 0 rfl) ?_
      refine cg_X7_0 C hI dX7_joint_70 ?_
      refine cg_X7_10 C hI dX7_joint_73 ?_
      refine lv_iload_n C.1 C.2.1 dX7_joint_76 rfl (lv_at hl 1 rfl) ?_
      obtain ⟨hk, hs⟩ := ck_e hs
      refine ca_10 C hI hk dX7_joint_77 ?_
      obtain rfl := Option.some.inj hs
      exact C_iret C hI dX7_joint_78
    have hs := if_f c3 hs
    refine lv_tableOut (tgt := 79) C.1 C.2.1 dX7_joint_10 (tab_out4 c0 c1 c2 c3) (by decide) ?_
    refine lv_iconst (v := -1) C.1 C.2.1 dX7_joint_79 (by decide) ?_
    obtain rfl := Option.some.inj hs
    exact C_iret C hI dX7_joint_80
  · have hs := if_t cn hs
    refine lv_iconst (v := -1) C.1 C.2.1 dX7_joint_7 (by decide) ?_
    obtain rfl := Option.some.inj hs
    exact C_iret C hI dX7_joint_8

def sX7_feed (x1 : Int32) (x2 : Int32) (x3 : Int32) (x4 : Int32) (x5 : Int32) (I : Nat → Int32) (J : Nat → Int64) (A : Nat → Nat → Int32) (B : Nat → Nat → Int64) : Option ((Int32) × (Nat → Int32) × (Nat → Nat → Int32)) :=
if ((I 7) + (20 : Int32)) ≤ (400 : Int32) then
((sX7_writeBytes x1 I J A B).bind fun (I, A) =>
(sX7_writeBytes x2 I J A B).bind fun (I, A) =>
(sX7_writeBytes x3 I J A B).bind fun (I, A) =>
(sX7_writeBytes x4 I J A B).bind fun (I, A) =>
(sX7_writeBytes x5 I J A B).bind fun (I, A) =>
some ((I 7), I, A))
else
some ((-1 : Int32), I, A)
set_option maxRecDepth 100000 in
set_option maxHeartbeats 8000000 in
theorem kX7_feed (l : Launch) (D : va_G) (cy : Nat → ClassId) (P0 : Nat → Prop) (q z : Nat → Nat) (tl : va_W) (xx : (Nat → Option Nat) × (Nat → Option Nat) × Nat) (x1 : Int32) (x2 : Int32) (x3 : Int32) (x4 : Int32) (x5 : Int32) (I : Nat → Int32) (J : Nat → Int64) (A : Nat → Nat → Int32) (B : Nat → Nat → Int64) (r : Int32) (I2 : Nat → Int32) (A2 : Nat → Nat → Int32) (hs : sX7_feed x1 x2 x3 x4 x5 I J A B = some (r, I2, A2)) : McC l yX7_feed cX7_feed 6 (some .int) 1 [.ref (q 99), .int x1, .int x2, .int x3, .int x4, .int x5] D cy P0 q z tl xx I J A B (some (.int r)) xx I2 J A2 B := by
  refine C_start rfl (Nat.le_of_ble_eq_true rfl) ?_
  intro p e s m args below meth c H locs C hI ls hl
  have hl : lv_has ls 6 [(0, .ref (q 99)), (1, .int x1), (2, .int x2), (3, .int x3), (4, .int x4), (5, .int x5)] := hl
  rw [sX7_feed] at hs
  refine lv_aload_n C.1 C.2.1 dX7_feed_0 rfl (lv_at hl 0 rfl) ?_
  refine cg_X7_7 C hI dX7_feed_1 ?_
  refine lv_bipush (v := 20) C.1 C.2.1 dX7_feed_4 (by decide) ?_
  refine lv_iadd C.1 C.2.1 dX7_feed_6 ?_
  refine lv_sipush (v := 400) C.1 C.2.1 dX7_feed_7 (by decide) ?_
  refine lv_icmp_le (tgt := 15) C.1 C.2.1 dX7_feed_10 (by decide) (fun cn => ?_) (fun cn => ?_)
  · have hs := if_t cn hs
    refine lv_aload_n C.1 C.2.1 dX7_feed_15 rfl (lv_at hl 0 rfl) ?_
    refine lv_iload_n C.1 C.2.1 dX7_feed_16 rfl (lv_at hl 1 rfl) ?_
    obtain ⟨⟨I, A⟩, hc, hs⟩ := bd_e hs
    refine C_call C hI (kX7_writeBytes l D cy P0 q z tl xx _ _ _ _ _ _ _ hc) (rv_X7 hI) ml_X7_164 im_X7_writeBytes se_X7_writeBytes ini_X7 co_X7_writeBytes hyX7_writeBytes rfl ⟨by decide, by decide⟩ hl.1 rfl (Nat.le_of_ble_eq_true rfl) dX7_feed_17 (fun H locs hI => ?_)
    refine lv_aload_n C.1 C.2.1 dX7_feed_20 rfl (lv_at hl 0 rfl) ?_
    refine lv_iload_n C.1 C.2.1 dX7_feed_21 rfl (lv_at hl 2 rfl) ?_
    obtain ⟨⟨I, A⟩, hc, hs⟩ := bd_e hs
    refine C_call C hI (kX7_writeBytes l D cy P0 q z tl xx _ _ _ _ _ _ _ hc) (rv_X7 hI) ml_X7_164 im_X7_writeBytes se_X7_writeBytes ini_X7 co_X7_writeBytes hyX7_writeBytes rfl ⟨by decide, by decide⟩ hl.1 rfl (Nat.le_of_ble_eq_true rfl) dX7_feed_22 (fun H locs hI => ?_)
    refine lv_aload_n C.1 C.2.1 dX7_feed_25 rfl (lv_at hl 0 rfl) ?_
    refine lv_iload_n C.1 C.2.1 dX7_feed_26 rfl (lv_at hl 3 rfl) ?_
    obtain ⟨⟨I, A⟩, hc, hs⟩ := bd_e hs
    refine C_call C hI (kX7_writeBytes l D cy P0 q z tl xx _ _ _ _ _ _ _ hc) (rv_X7 hI) ml_X7_164 im_X7_writeBytes se_X7_writeBytes ini_X7 co_X7_writeBytes hyX7_writeBytes rfl ⟨by decide, by decide⟩ hl.1 rfl (Nat.le_of_ble_eq_true rfl) dX7_feed_27 (fun H locs hI => ?_)
    refine lv_aload_n C.1 C.2.1 dX7_feed_30 rfl (lv_at hl 0 rfl) ?_
    refine lv_iload C.1 C.2.1 dX7_feed_31 (lv_at hl 4 rfl) ?_
    obtain ⟨⟨I, A⟩, hc, hs⟩ := bd_e hs
    refine C_call C hI (kX7_writeBytes l D cy P0 q z tl xx _ _ _ _ _ _ _ hc) (rv_X7 hI) ml_X7_164 im_X7_writeBytes se_X7_writeBytes ini_X7 co_X7_writeBytes hyX7_writeBytes rfl ⟨by decide, by decide⟩ hl.1 rfl (Nat.le_of_ble_eq_true rfl) dX7_feed_33 (fun H locs hI => ?_)
    refine lv_aload_n C.1 C.2.1 dX7_feed_36 rfl (lv_at hl 0 rfl) ?_
    refine lv_iload C.1 C.2.1 dX7_feed_37 (lv_at hl 5 rfl) ?_
    obtain ⟨⟨I, A⟩, hc, hs⟩ := bd_e hs
    refine C_call C hI (kX7_writeBytes l D cy P0 q z tl xx _ _ _ _ _ _ _ hc) (rv_X7 hI) ml_X7_164 im_X7_writeBytes se_X7_writeBytes ini_X7 co_X7_writeBytes hyX7_writeBytes rfl ⟨by decide, by decide⟩ hl.1 rfl (Nat.le_of_ble_eq_true rfl) dX7_feed_39 (fun H locs hI => ?_)
    refine lv_aload_n C.1 C.2.1 dX7_feed_42 rfl (lv_at hl 0 rfl) ?_
    refine cg_X7_7 C hI dX7_feed_43 ?_
    obtain ⟨rfl, rfl, rfl⟩ := so3 hs
    exact C_iret C hI dX7_feed_46
  · have hs := if_f cn hs
    refine lv_iconst (v := -1) C.1 C.2.1 dX7_feed_13 (by decide) ?_
    obtain ⟨rfl, rfl, rfl⟩ := so3 hs
    exact C_iret C hI dX7_feed_14

def sX7_end (x1 : Int32) (I : Nat → Int32) (J : Nat → Int64) (A : Nat → Nat → Int32) (B : Nat → Nat → Int64) : Option ((Int32) × (Nat → Int32)) :=
(sX7_isWithin x1 (0 : Int32) (I 7)).bind fun r_6 =>
if r_6 = 0 then
(some ((-1 : Int32), I))
else
gv (upd I 7 x1) fun I =>
some (x1, I)
set_option maxRecDepth 100000 in
set_option maxHeartbeats 8000000 in
theorem kX7_end (l : Launch) (D : va_G) (cy : Nat → ClassId) (P0 : Nat → Prop) (q z : Nat → Nat) (tl : va_W) (xx : (Nat → Option Nat) × (Nat → Option Nat) × Nat) (x1 : Int32) (I : Nat → Int32) (J : Nat → Int64) (A : Nat → Nat → Int32) (B : Nat → Nat → Int64) (r : Int32) (I2 : Nat → Int32) (hs : sX7_end x1 I J A B = some (r, I2)) : McC l yX7_end cX7_end 2 (some .int) 1 [.ref (q 99), .int x1] D cy P0 q z tl xx I J A B (some (.int r)) xx I2 J A B := by
  refine C_start rfl (Nat.le_of_ble_eq_true rfl) ?_
  intro p e s m args below meth c H locs C hI ls hl
  have hl : lv_has ls 2 [(0, .ref (q 99)), (1, .int x1)] := hl
  rw [sX7_end] at hs
  refine lv_iload_n C.1 C.2.1 dX7_end_0 rfl (lv_at hl 1 rfl) ?_
  refine lv_iconst (v := 0) C.1 C.2.1 dX7_end_1 (by decide) ?_
  refine lv_aload_n C.1 C.2.1 dX7_end_2 rfl (lv_at hl 0 rfl) ?_
  refine cg_X7_7 C hI dX7_end_3 ?_
  obtain ⟨r_6, hc, hs⟩ := bd_e hs
  refine S_call (h := 1) C (kX7_isWithin l _ _ _ _ hc) ml_X7_80 st_X7_isWithin ini_X7 co_X7_isWithin hyX7_isWithin rfl ⟨by decide, by decide⟩ hl.1 rfl (Nat.le_of_ble_eq_true rfl) dX7_end_6 ⟨Nat.le_refl 0, Nat.le_refl 0, Nat.le_refl _, Nat.le_refl _⟩ ?_
  refine lv_if_ne (tgt := 14) C.1 C.2.1 dX7_end_9 (by decide) (fun cn => ?_) (fun cn => ?_)
  · have hs := if_f cn hs
    refine lv_aload_n C.1 C.2.1 dX7_end_14 rfl (lv_at hl 0 rfl) ?_
    refine lv_iload_n C.1 C.2.1 dX7_end_15 rfl (lv_at hl 1 rfl) ?_
    refine cp_X7_7 C hI dX7_end_16 (fun H locs hI => ?_)
    have hs := gv_be hs
    refine lv_iload_n C.1 C.2.1 dX7_end_19 rfl (lv_at hl 1 rfl) ?_
    obtain ⟨rfl, rfl⟩ := so2 hs
    exact C_iret C hI dX7_end_20
  · have hs := if_t cn hs
    refine lv_iconst (v := -1) C.1 C.2.1 dX7_end_12 (by decide) ?_
    obtain ⟨rfl, rfl⟩ := so2 hs
    exact C_iret C hI dX7_end_13

def sX7_drawing (x1 : Int32) (x2 : Int32) (I : Nat → Int32) (J : Nat → Int64) (A : Nat → Nat → Int32) (B : Nat → Nat → Int64) : Option ((Int32)) :=
(sX7_isWithin x1 (0 : Int32) ((I 35) - (1 : Int32))).bind fun r_14 =>
if r_14 = 0 then
(some (-1 : Int32))
else
(sX7_isWithin x2 (0 : Int32) (5 : Int32)).bind fun r_23 =>
if r_23 = 0 then
(some (-1 : Int32))
else
(sX5_cell 1 x1 x2 I J A B).bind fun r_40 =>
some r_40
set_option maxRecDepth 100000 in
set_option maxHeartbeats 8000000 in
theorem kX7_drawing (l : Launch) (D : va_G) (cy : Nat → ClassId) (P0 : Nat → Prop) (q z : Nat → Nat) (tl : va_W) (xx : (Nat → Option Nat) × (Nat → Option Nat) × Nat) (x1 : Int32) (x2 : Int32) (I : Nat → Int32) (J : Nat → Int64) (A : Nat → Nat → Int32) (B : Nat → Nat → Int64) (r : Int32) (hs : sX7_drawing x1 x2 I J A B = some r) : McC l yX7_drawing cX7_drawing 3 (some .int) 1 [.ref (q 99), .int x1, .int x2] D cy P0 q z tl xx I J A B (some (.int r)) xx I J A B := by
  refine C_start rfl (Nat.le_of_ble_eq_true rfl) ?_
  intro p e s m args below meth c H locs C hI ls hl
  have hl : lv_has ls 3 [(0, .ref (q 99)), (1, .int x1), (2, .int x2)] := hl
  rw [sX7_drawing] at hs
  refine lv_iload_n C.1 C.2.1 dX7_drawing_0 rfl (lv_at hl 1 rfl) ?_
  refine lv_iconst (v := 0) C.1 C.2.1 dX7_drawing_1 (by decide) ?_
  refine lv_aload_n C.1 C.2.1 dX7_drawing_2 rfl (lv_at hl 0 rfl) ?_
  refine cg_X7_0 C hI dX7_drawing_3 ?_
  refine cg_X7_18 C hI dX7_drawing_6 ?_
  refine cg_X7_35 C hI dX7_drawing_9 ?_
  refine lv_iconst (v := 1) C.1 C.2.1 dX7_drawing_12 (by decide) ?_
  refine lv_isub C.1 C.2.1 dX7_drawing_13 ?_
  obtain ⟨r_14, hc, hs⟩ := bd_e hs
  refine S_call (h := 1) C (kX7_isWithin l _ _ _ _ hc) ml_X7_80 st_X7_isWithin ini_X7 co_X7_isWithin hyX7_isWithin rfl ⟨by decide, by decide⟩ hl.1 rfl (Nat.le_of_ble_eq_true rfl) dX7_drawing_14 ⟨Nat.le_refl 0, Nat.le_refl 0, Nat.le_refl _, Nat.le_refl _⟩ ?_
  refine lv_if_eq (tgt := 29) C.1 C.2.1 dX7_drawing_17 (by decide) (fun cn => ?_) (fun cn => ?_)
  · have hs := if_t cn hs
    refine lv_iconst (v := -1) C.1 C.2.1 dX7_drawing_29 (by decide) ?_
    obtain rfl := Option.some.inj hs
    exact C_iret C hI dX7_drawing_30
  · have hs := if_f cn hs
    refine lv_iload_n C.1 C.2.1 dX7_drawing_20 rfl (lv_at hl 2 rfl) ?_
    refine lv_iconst (v := 0) C.1 C.2.1 dX7_drawing_21 (by decide) ?_
    refine lv_iconst (v := 5) C.1 C.2.1 dX7_drawing_22 (by decide) ?_
    obtain ⟨r_23, hc, hs⟩ := bd_e hs
    refine S_call (h := 1) C (kX7_isWithin l _ _ _ _ hc) ml_X7_80 st_X7_isWithin ini_X7 co_X7_isWithin hyX7_isWithin rfl ⟨by decide, by decide⟩ hl.1 rfl (Nat.le_of_ble_eq_true rfl) dX7_drawing_23 ⟨Nat.le_refl 0, Nat.le_refl 0, Nat.le_refl _, Nat.le_refl _⟩ ?_
    refine lv_if_ne (tgt := 31) C.1 C.2.1 dX7_drawing_26 (by decide) (fun cn => ?_) (fun cn => ?_)
    · have hs := if_f cn hs
      refine lv_aload_n C.1 C.2.1 dX7_drawing_31 rfl (lv_at hl 0 rfl) ?_
      refine cg_X7_0 C hI dX7_drawing_32 ?_
      refine cg_X7_18 C hI dX7_drawing_35 ?_
      refine lv_iload_n C.1 C.2.1 dX7_drawing_38 rfl (lv_at hl 1 rfl) ?_
      refine lv_iload_n C.1 C.2.1 dX7_drawing_39 rfl (lv_at hl 2 rfl) ?_
      obtain ⟨r_40, hc, hs⟩ := bd_e hs
      refine C_call C hI (kX5_cell l D cy P0 q z tl xx 1 (by decide) _ _ _ _ _ _ _ hc) (rv_X5 hI 1 (by decide)) ml_X7_203 im_X5_cell se_X5_cell ini_X5 co_X5_cell hyX5_cell rfl ⟨by decide, by decide⟩ hl.1 rfl (Nat.le_of_ble_eq_true rfl) dX7_drawing_40 (fun H locs hI => ?_)
      obtain rfl := Option.some.inj hs
      exact C_iret C hI dX7_drawing_43
    · have hs := if_t cn hs
      refine lv_iconst (v := -1) C.1 C.2.1 dX7_drawing_29 (by decide) ?_
      obtain rfl := Option.some.inj hs
      exact C_iret C hI dX7_drawing_30

def sX7_wish (x1 : Int32) (I : Nat → Int32) (J : Nat → Int64) (A : Nat → Nat → Int32) (B : Nat → Nat → Int64) : Option ((Int32) × (Nat → Int32) × (Nat → Nat → Int32)) :=
(sX7_isJoint x1).bind fun r_1 =>
if r_1 = 0 then
((sX7_refuse (-1 : Int32) I J A B).bind fun (r_9, I) =>
some (r_9, I, A))
else
ck (inB x1 48) <|
if (A 11 (ix x1)) = 0 then
((sX7_refuse (-3 : Int32) I J A B).bind fun (r_28, I) =>
some (r_28, I, A))
else
(sX2_isWished x1 I J A B).bind fun r_37 =>
if r_37 = 0 then
(if (I 73) < (9 : Int32) then
(ck (inB (I 73) 9) <|
gv (va_up A 72 (upd (A 72) (ix (I 73)) x1)) fun A =>
gv (upd I 73 ((I 73) + (1 : Int32))) fun I =>
(sX7_accept (I 73) I J A B).bind fun (r_106, I) =>
some (r_106, I, A))
else
(sX7_refuse (-5 : Int32) I J A B).bind fun (r_65, I) =>
some (r_65, I, A))
else
(sX7_refuse (-4 : Int32) I J A B).bind fun (r_46, I) =>
some (r_46, I, A)
set_option maxRecDepth 100000 in
set_option maxHeartbeats 8000000 in
theorem kX7_wish (l : Launch) (D : va_G) (cy : Nat → ClassId) (P0 : Nat → Prop) (q z : Nat → Nat) (tl : va_W) (xx : (Nat → Option Nat) × (Nat → Option Nat) × Nat) (x1 : Int32) (I : Nat → Int32) (J : Nat → Int64) (A : Nat → Nat → Int32) (B : Nat → Nat → Int64) (r : Int32) (I2 : Nat → Int32) (A2 : Nat → Nat → Int32) (hs : sX7_wish x1 I J A B = some (r, I2, A2)) : McC l yX7_wish cX7_wish 2 (some .int) 1 [.ref (q 99), .int x1] D cy P0 q z tl xx I J A B (some (.int r)) xx I2 J A2 B := by
  refine C_start rfl (Nat.le_of_ble_eq_true rfl) ?_
  intro p e s m args below meth c H locs C hI ls hl
  have hl : lv_has ls 2 [(0, .ref (q 99)), (1, .int x1)] := hl
  rw [sX7_wish] at hs
  refine lv_iload_n C.1 C.2.1 dX7_wish_0 rfl (lv_at hl 1 rfl) ?_
  obtain ⟨r_1, hc, hs⟩ := bd_e hs
  refine S_call (h := 1) C (kX7_isJoint l _ _ hc) ml_X7_66 st_X7_isJoint ini_X7 co_X7_isJoint hyX7_isJoint rfl ⟨by decide, by decide⟩ hl.1 rfl (Nat.le_of_ble_eq_true rfl) dX7_wish_1 ⟨Nat.le_refl 0, Nat.le_refl 0, Nat.le_refl _, Nat.le_refl _⟩ ?_
  refine lv_if_ne (tgt := 13) C.1 C.2.1 dX7_wish_4 (by decide) (fun cn => ?_) (fun cn => ?_)
  · have hs := if_f cn hs
    refine lv_aload_n C.1 C.2.1 dX7_wish_13 rfl (lv_at hl 0 rfl) ?_
    refine cg_X7_0 C hI dX7_wish_14 ?_
    refine cg_X7_11 C hI dX7_wish_17 ?_
    refine lv_iload_n C.1 C.2.1 dX7_wish_20 rfl (lv_at hl 1 rfl) ?_
    obtain ⟨hk, hs⟩ := ck_e hs
    refine ca_11 C hI hk dX7_wish_21 ?_
    refine lv_if_ne (tgt := 32) C.1 C.2.1 dX7_wish_22 (by decide) (fun cn => ?_) (fun cn => ?_)
    · have hs := if_f cn hs
      refine lv_aload_n C.1 C.2.1 dX7_wish_32 rfl (lv_at hl 0 rfl) ?_
      refine cg_X7_3 C hI dX7_wish_33 ?_
      refine lv_iload_n C.1 C.2.1 dX7_wish_36 rfl (lv_at hl 1 rfl) ?_
      obtain ⟨r_37, hc, hs⟩ := bd_e hs
      refine C_call C hI (kX2_isWished l D cy P0 q z tl xx _ _ _ _ _ _ hc) (rv_X2 hI) ml_X7_229 im_X2_isWished se_X2_isWished ini_X2 co_X2_isWished hyX2_isWished rfl ⟨by decide, by decide⟩ hl.1 rfl (Nat.le_of_ble_eq_true rfl) dX7_wish_37 (fun H locs hI => ?_)
      refine lv_if_eq (tgt := 50) C.1 C.2.1 dX7_wish_40 (by decide) (fun cn => ?_) (fun cn => ?_)
      · have hs := if_t cn hs
        refine lv_aload_n C.1 C.2.1 dX7_wish_50 rfl (lv_at hl 0 rfl) ?_
        refine cg_X7_3 C hI dX7_wish_51 ?_
        refine cg_X7_73 C hI dX7_wish_54 ?_
        refine lv_bipush (v := 9) C.1 C.2.1 dX7_wish_57 (by decide) ?_
        refine lv_icmp_lt (tgt := 69) C.1 C.2.1 dX7_wish_59 (by decide) (fun cn => ?_) (fun cn => ?_)
        · have hs := if_t cn hs
          refine lv_aload_n C.1 C.2.1 dX7_wish_69 rfl (lv_at hl 0 rfl) ?_
          refine cg_X7_3 C hI dX7_wish_70 ?_
          refine cg_X7_72 C hI dX7_wish_73 ?_
          refine lv_aload_n C.1 C.2.1 dX7_wish_76 rfl (lv_at hl 0 rfl) ?_
          refine cg_X7_3 C hI dX7_wish_77 ?_
          refine cg_X7_73 C hI dX7_wish_80 ?_
          refine lv_iload_n C.1 C.2.1 dX7_wish_83 rfl (lv_at hl 1 rfl) ?_
          obtain ⟨hk, hs⟩ := ck_e hs
          refine cs_72 C hI hk dX7_wish_84 (fun H locs hI => ?_)
          have hs := gv_be hs
          refine lv_aload_n C.1 C.2.1 dX7_wish_85 rfl (lv_at hl 0 rfl) ?_
          refine cg_X7_3 C hI dX7_wish_86 ?_
          refine lv_dup C.1 C.2.1 dX7_wish_89 rfl ?_
          refine cg_X7_73 C hI dX7_wish_90 ?_
          refine lv_iconst (v := 1) C.1 C.2.1 dX7_wish_93 (by decide) ?_
          refine lv_iadd C.1 C.2.1 dX7_wish_94 ?_
          refine cp_X7_73 C hI dX7_wish_95 (fun H locs hI => ?_)
          have hs := gv_be hs
          refine lv_aload_n C.1 C.2.1 dX7_wish_98 rfl (lv_at hl 0 rfl) ?_
          refine lv_aload_n C.1 C.2.1 dX7_wish_99 rfl (lv_at hl 0 rfl) ?_
          refine cg_X7_3 C hI dX7_wish_100 ?_
          refine cg_X7_73 C hI dX7_wish_103 ?_
          obtain ⟨⟨r_106, I⟩, hc, hs⟩ := bd_e hs
          refine C_call C hI (kX7_accept l D cy P0 q z tl xx _ _ _ _ _ _ _ hc) (rv_X7 hI) ml_X7_77 im_X7_accept se_X7_accept ini_X7 co_X7_accept hyX7_accept rfl ⟨by decide, by decide⟩ hl.1 rfl (Nat.le_of_ble_eq_true rfl) dX7_wish_106 (fun H locs hI => ?_)
          obtain ⟨rfl, rfl, rfl⟩ := so3 hs
          exact C_iret C hI dX7_wish_109
        · have hs := if_f cn hs
          refine lv_aload_n C.1 C.2.1 dX7_wish_62 rfl (lv_at hl 0 rfl) ?_
          refine lv_bipush (v := -5) C.1 C.2.1 dX7_wish_63 (by decide) ?_
          obtain ⟨⟨r_65, I⟩, hc, hs⟩ := bd_e hs
          refine C_call C hI (kX7_refuse l D cy P0 q z tl xx _ _ _ _ _ _ _ hc) (rv_X7 hI) ml_X7_70 im_X7_refuse se_X7_refuse ini_X7 co_X7_refuse hyX7_refuse rfl ⟨by decide, by decide⟩ hl.1 rfl (Nat.le_of_ble_eq_true rfl) dX7_wish_65 (fun H locs hI => ?_)
          obtain ⟨rfl, rfl, rfl⟩ := so3 hs
          exact C_iret C hI dX7_wish_68
      · have hs := if_f cn hs
        refine lv_aload_n C.1 C.2.1 dX7_wish_43 rfl (lv_at hl 0 rfl) ?_
        refine lv_bipush (v := -4) C.1 C.2.1 dX7_wish_44 (by decide) ?_
        obtain ⟨⟨r_46, I⟩, hc, hs⟩ := bd_e hs
        refine C_call C hI (kX7_refuse l D cy P0 q z tl xx _ _ _ _ _ _ _ hc) (rv_X7 hI) ml_X7_70 im_X7_refuse se_X7_refuse ini_X7 co_X7_refuse hyX7_refuse rfl ⟨by decide, by decide⟩ hl.1 rfl (Nat.le_of_ble_eq_true rfl) dX7_wish_46 (fun H locs hI => ?_)
        obtain ⟨rfl, rfl, rfl⟩ := so3 hs
        exact C_iret C hI dX7_wish_49
    · have hs := if_t cn hs
      refine lv_aload_n C.1 C.2.1 dX7_wish_25 rfl (lv_at hl 0 rfl) ?_
      refine lv_bipush (v := -3) C.1 C.2.1 dX7_wish_26 (by decide) ?_
      obtain ⟨⟨r_28, I⟩, hc, hs⟩ := bd_e hs
      refine C_call C hI (kX7_refuse l D cy P0 q z tl xx _ _ _ _ _ _ _ hc) (rv_X7 hI) ml_X7_70 im_X7_refuse se_X7_refuse ini_X7 co_X7_refuse hyX7_refuse rfl ⟨by decide, by decide⟩ hl.1 rfl (Nat.le_of_ble_eq_true rfl) dX7_wish_28 (fun H locs hI => ?_)
      obtain ⟨rfl, rfl, rfl⟩ := so3 hs
      exact C_iret C hI dX7_wish_31
  · have hs := if_t cn hs
    refine lv_aload_n C.1 C.2.1 dX7_wish_7 rfl (lv_at hl 0 rfl) ?_
    refine lv_iconst (v := -1) C.1 C.2.1 dX7_wish_8 (by decide) ?_
    obtain ⟨⟨r_9, I⟩, hc, hs⟩ := bd_e hs
    refine C_call C hI (kX7_refuse l D cy P0 q z tl xx _ _ _ _ _ _ _ hc) (rv_X7 hI) ml_X7_70 im_X7_refuse se_X7_refuse ini_X7 co_X7_refuse hyX7_refuse rfl ⟨by decide, by decide⟩ hl.1 rfl (Nat.le_of_ble_eq_true rfl) dX7_wish_9 (fun H locs hI => ?_)
    obtain ⟨rfl, rfl, rfl⟩ := so3 hs
    exact C_iret C hI dX7_wish_12

def sX7_night (x1 : Int32) (I : Nat → Int32) (J : Nat → Int64) (A : Nat → Nat → Int32) (B : Nat → Nat → Int64) : Option ((Int32)) :=
(sX7_isWithin x1 (0 : Int32) ((I 75) - (1 : Int32))).bind fun r_11 =>
if r_11 = 0 then
(some (-1 : Int32))
else
ck (inB x1 9) <|
some (A 74 (ix x1))
set_option maxRecDepth 100000 in
set_option maxHeartbeats 8000000 in
theorem kX7_night (l : Launch) (D : va_G) (cy : Nat → ClassId) (P0 : Nat → Prop) (q z : Nat → Nat) (tl : va_W) (xx : (Nat → Option Nat) × (Nat → Option Nat) × Nat) (x1 : Int32) (I : Nat → Int32) (J : Nat → Int64) (A : Nat → Nat → Int32) (B : Nat → Nat → Int64) (r : Int32) (hs : sX7_night x1 I J A B = some r) : McC l yX7_night cX7_night 2 (some .int) 1 [.ref (q 99), .int x1] D cy P0 q z tl xx I J A B (some (.int r)) xx I J A B := by
  refine C_start rfl (Nat.le_of_ble_eq_true rfl) ?_
  intro p e s m args below meth c H locs C hI ls hl
  have hl : lv_has ls 2 [(0, .ref (q 99)), (1, .int x1)] := hl
  rw [sX7_night] at hs
  refine lv_iload_n C.1 C.2.1 dX7_night_0 rfl (lv_at hl 1 rfl) ?_
  refine lv_iconst (v := 0) C.1 C.2.1 dX7_night_1 (by decide) ?_
  refine lv_aload_n C.1 C.2.1 dX7_night_2 rfl (lv_at hl 0 rfl) ?_
  refine cg_X7_3 C hI dX7_night_3 ?_
  refine cg_X7_75 C hI dX7_night_6 ?_
  refine lv_iconst (v := 1) C.1 C.2.1 dX7_night_9 (by decide) ?_
  refine lv_isub C.1 C.2.1 dX7_night_10 ?_
  obtain ⟨r_11, hc, hs⟩ := bd_e hs
  refine S_call (h := 1) C (kX7_isWithin l _ _ _ _ hc) ml_X7_80 st_X7_isWithin ini_X7 co_X7_isWithin hyX7_isWithin rfl ⟨by decide, by decide⟩ hl.1 rfl (Nat.le_of_ble_eq_true rfl) dX7_night_11 ⟨Nat.le_refl 0, Nat.le_refl 0, Nat.le_refl _, Nat.le_refl _⟩ ?_
  refine lv_if_eq (tgt := 29) C.1 C.2.1 dX7_night_14 (by decide) (fun cn => ?_) (fun cn => ?_)
  · have hs := if_t cn hs
    refine lv_iconst (v := -1) C.1 C.2.1 dX7_night_29 (by decide) ?_
    obtain rfl := Option.some.inj hs
    exact C_iret C hI dX7_night_30
  · have hs := if_f cn hs
    refine lv_aload_n C.1 C.2.1 dX7_night_17 rfl (lv_at hl 0 rfl) ?_
    refine cg_X7_3 C hI dX7_night_18 ?_
    refine cg_X7_74 C hI dX7_night_21 ?_
    refine lv_iload_n C.1 C.2.1 dX7_night_24 rfl (lv_at hl 1 rfl) ?_
    obtain ⟨hk, hs⟩ := ck_e hs
    refine ca_74 C hI hk dX7_night_25 ?_
    refine lv_goto (tgt := 30) C.1 C.2.1 dX7_night_26 (by decide) ?_
    obtain rfl := Option.some.inj hs
    exact C_iret C hI dX7_night_30

def sX7_knew (x1 : Int32) (x2 : Int32) (I : Nat → Int32) (J : Nat → Int64) (A : Nat → Nat → Int32) (B : Nat → Nat → Int64) : Option ((Int32)) :=
(sX7_isPerson x1).bind fun r_1 =>
if r_1 = 0 then
(some (-1 : Int32))
else
(sX7_isFact x2).bind fun r_8 =>
if r_8 = 0 then
(some (-1 : Int32))
else
ck (inB ((x1 * (8 : Int32)) + x2) 64) <|
gv (A 16 (ix ((x1 * (8 : Int32)) + x2))) fun x3_30 =>
gv (if x3_30 = (10000 : Int32) then (-1 : Int32) else x3_30) fun v_43 =>
some v_43
set_option maxRecDepth 100000 in
set_option maxHeartbeats 8000000 in
theorem kX7_knew (l : Launch) (D : va_G) (cy : Nat → ClassId) (P0 : Nat → Prop) (q z : Nat → Nat) (tl : va_W) (xx : (Nat → Option Nat) × (Nat → Option Nat) × Nat) (x1 : Int32) (x2 : Int32) (I : Nat → Int32) (J : Nat → Int64) (A : Nat → Nat → Int32) (B : Nat → Nat → Int64) (r : Int32) (hs : sX7_knew x1 x2 I J A B = some r) : McC l yX7_knew cX7_knew 4 (some .int) 1 [.ref (q 99), .int x1, .int x2] D cy P0 q z tl xx I J A B (some (.int r)) xx I J A B := by
  refine C_start rfl (Nat.le_of_ble_eq_true rfl) ?_
  intro p e s m args below meth c H locs C hI ls hl
  have hl : lv_has ls 4 [(0, .ref (q 99)), (1, .int x1), (2, .int x2)] := hl
  rw [sX7_knew] at hs
  refine lv_iload_n C.1 C.2.1 dX7_knew_0 rfl (lv_at hl 1 rfl) ?_
  obtain ⟨r_1, hc, hs⟩ := bd_e hs
  refine S_call (h := 1) C (kX7_isPerson l _ _ hc) ml_X7_197 st_X7_isPerson ini_X7 co_X7_isPerson hyX7_isPerson rfl ⟨by decide, by decide⟩ hl.1 rfl (Nat.le_of_ble_eq_true rfl) dX7_knew_1 ⟨Nat.le_refl 0, Nat.le_refl 0, Nat.le_refl _, Nat.le_refl _⟩ ?_
  refine lv_if_eq (tgt := 14) C.1 C.2.1 dX7_knew_4 (by decide) (fun cn => ?_) (fun cn => ?_)
  · have hs := if_t cn hs
    refine lv_iconst (v := -1) C.1 C.2.1 dX7_knew_14 (by decide) ?_
    obtain rfl := Option.some.inj hs
    exact C_iret C hI dX7_knew_15
  · have hs := if_f cn hs
    refine lv_iload_n C.1 C.2.1 dX7_knew_7 rfl (lv_at hl 2 rfl) ?_
    obtain ⟨r_8, hc, hs⟩ := bd_e hs
    refine S_call (h := 1) C (kX7_isFact l _ _ hc) ml_X7_273 st_X7_isFact ini_X7 co_X7_isFact hyX7_isFact rfl ⟨by decide, by decide⟩ hl.1 rfl (Nat.le_of_ble_eq_true rfl) dX7_knew_8 ⟨Nat.le_refl 0, Nat.le_refl 0, Nat.le_refl _, Nat.le_refl _⟩ ?_
    refine lv_if_ne (tgt := 16) C.1 C.2.1 dX7_knew_11 (by decide) (fun cn => ?_) (fun cn => ?_)
    · have hs := if_f cn hs
      refine lv_aload_n C.1 C.2.1 dX7_knew_16 rfl (lv_at hl 0 rfl) ?_
      refine cg_X7_0 C hI dX7_knew_17 ?_
      refine cg_X7_16 C hI dX7_knew_20 ?_
      refine lv_iload_n C.1 C.2.1 dX7_knew_23 rfl (lv_at hl 1 rfl) ?_
      refine lv_bipush (v := 8) C.1 C.2.1 dX7_knew_24 (by decide) ?_
      refine lv_imul C.1 C.2.1 dX7_knew_26 ?_
      refine lv_iload_n C.1 C.2.1 dX7_knew_27 rfl (lv_at hl 2 rfl) ?_
      refine lv_iadd C.1 C.2.1 dX7_knew_28 ?_
      obtain ⟨hk, hs⟩ := ck_e hs
      refine ca_16 C hI hk dX7_knew_29 ?_
      refine lv_topi (fun x3_30 ex3_30 => ?_)
      have hs := gv_at ex3_30 hs
      refine lv_istore_n (lv' := [(3, .int x3_30), (0, .ref (q 99)), (1, .int x1), (2, .int x2)]) C.1 C.2.1 dX7_knew_30 rfl hl (by decide) rfl (fun ls hl => ?_)
      refine lv_iload_n C.1 C.2.1 dX7_knew_31 rfl (lv_at hl 0 rfl) ?_
      refine lv_sipush (v := 10000) C.1 C.2.1 dX7_knew_32 (by decide) ?_
      obtain ⟨v_43, ev_43, hs⟩ := gv_ex hs
      have KP_43 : W p l e (rmL 1) s m args below meth c H locs 0 0 (MQ below (cQ D cy P0 q tl (some (.int r)) xx I J A B) args s 0 0 P0) (F0 m 43 ls [.int v_43]) := by
        obtain rfl := Option.some.inj hs
        exact C_iret C hI dX7_knew_43
      refine lv_icmp_ne (tgt := 42) C.1 C.2.1 dX7_knew_35 (by decide) (fun cn => ?_) (fun cn => ?_)
      · have ev_43 := if_f' cn ev_43
        refine lv_iload_n C.1 C.2.1 dX7_knew_42 rfl (lv_at hl 0 rfl) ?_
        subst ev_43
        exact KP_43
      · have ev_43 := if_t' cn ev_43
        refine lv_iconst (v := -1) C.1 C.2.1 dX7_knew_38 (by decide) ?_
        refine lv_goto (tgt := 43) C.1 C.2.1 dX7_knew_39 (by decide) ?_
        subst ev_43
        exact KP_43
    · have hs := if_t cn hs
      refine lv_iconst (v := -1) C.1 C.2.1 dX7_knew_14 (by decide) ?_
      obtain rfl := Option.some.inj hs
      exact C_iret C hI dX7_knew_15

def sX1_thousandths (x1 : Int32) (I : Nat → Int32) (J : Nat → Int64) (A : Nat → Nat → Int32) (B : Nat → Nat → Int64) : Option ((Int64)) :=
(sX1_faceOf x1).bind fun r_5 =>
ck (inB r_5 4) <|
gv (B 67 (ix r_5)) fun x2_9 =>
ck (inB (x1 / (8 : Int32)) 6) <|
gv ((1000 : Int64) * (((A 14 (ix (x1 / (8 : Int32))))).toInt64)) fun x4_27 =>
if (lg_cmp x2_9 (0 : Int64)) = 0 then
(some (-1000000000000 : Int64))
else
(sX1_pullOf x1 I J A B).bind fun r_43 =>
ck (nzL x2_9) <|
some ((r_43 - (x4_27 * x2_9)) / x2_9)
set_option maxRecDepth 100000 in
set_option maxHeartbeats 8000000 in
theorem kX1_thousandths (l : Launch) (D : va_G) (cy : Nat → ClassId) (P0 : Nat → Prop) (q z : Nat → Nat) (tl : va_W) (xx : (Nat → Option Nat) × (Nat → Option Nat) × Nat) (x1 : Int32) (I : Nat → Int32) (J : Nat → Int64) (A : Nat → Nat → Int32) (B : Nat → Nat → Int64) (r : Int64) (hs : sX1_thousandths x1 I J A B = some r) : McC l yX1_thousandths cX1_thousandths 6 (some .long) 2 [.ref (q 2), .int x1] D cy P0 q z tl xx I J A B (some (.long r)) xx I J A B := by
  refine C_start rfl (Nat.le_of_ble_eq_true rfl) ?_
  intro p e s m args below meth c H locs C hI ls hl
  have hl : lv_has ls 6 [(0, .ref (q 2)), (1, .int x1)] := hl
  rw [sX1_thousandths] at hs
  refine lv_aload_n C.1 C.2.1 dX1_thousandths_0 rfl (lv_at hl 0 rfl) ?_
  refine cg_X1_67 C hI dX1_thousandths_1 ?_
  refine lv_iload_n C.1 C.2.1 dX1_thousandths_4 rfl (lv_at hl 1 rfl) ?_
  obtain ⟨r_5, hc, hs⟩ := bd_e hs
  refine S_call (h := 2) C (kX1_faceOf l _ _ hc) ml_X1_118 st_X1_faceOf ini_X1 co_X1_faceOf hyX1_faceOf rfl ⟨by decide, by decide⟩ hl.1 rfl (Nat.le_of_ble_eq_true rfl) dX1_thousandths_5 ⟨Nat.le_refl 0, Nat.le_refl 0, Nat.le_refl _, Nat.le_refl _⟩ ?_
  obtain ⟨hk, hs⟩ := ck_e hs
  refine ca_67 C hI hk dX1_thousandths_8 ?_
  refine lv_topl (fun x2_9 ex2_9 => ?_)
  have hs := gv_at ex2_9 hs
  refine lv_lstore_n (lv' := [(2, .long x2_9), (0, .ref (q 2)), (1, .int x1)]) C.1 C.2.1 dX1_thousandths_9 rfl hl (by decide) rfl (fun ls hl => ?_)
  refine lv_ldc2 C.1 C.2.1 C.2.2.2.1 (C.2.2.2.2.1 _ kl_X1_116) dX1_thousandths_10 ?_
  refine lv_aload_n C.1 C.2.1 dX1_thousandths_13 rfl (lv_at hl 1 rfl) ?_
  refine cg_X1_50 C hI dX1_thousandths_14 ?_
  refine cg_X1_14 C hI dX1_thousandths_17 ?_
  refine lv_iload_n C.1 C.2.1 dX1_thousandths_20 rfl (lv_at hl 2 rfl) ?_
  refine lv_bipush (v := 8) C.1 C.2.1 dX1_thousandths_21 (by decide) ?_
  refine lv_idiv C.1 C.2.1 dX1_thousandths_23 (by decide) ?_
  obtain ⟨hk, hs⟩ := ck_e hs
  refine ca_14 C hI hk dX1_thousandths_24 ?_
  refine lv_i2l C.1 C.2.1 dX1_thousandths_25 rfl ?_
  refine lv_lmul C.1 C.2.1 dX1_thousandths_26 ?_
  refine lv_topl (fun x4_27 ex4_27 => ?_)
  have hs := gv_at ex4_27 hs
  refine lv_lstore (lv' := [(4, .long x4_27), (2, .long x2_9), (0, .ref (q 2)), (1, .int x1)]) C.1 C.2.1 dX1_thousandths_27 hl (by decide) rfl (fun ls hl => ?_)
  refine lv_lload_n C.1 C.2.1 dX1_thousandths_29 rfl (lv_at hl 1 rfl) ?_
  refine lv_lconst (v := 0) C.1 C.2.1 dX1_thousandths_30 (by decide) ?_
  refine W.lcmp C.1 C.2.1 dX1_thousandths_31 ?_
  refine lv_if_ne (tgt := 41) C.1 C.2.1 dX1_thousandths_32 (by decide) (fun cn => ?_) (fun cn => ?_)
  · have hs := if_f cn hs
    refine lv_aload_n C.1 C.2.1 dX1_thousandths_41 rfl (lv_at hl 2 rfl) ?_
    refine lv_iload_n C.1 C.2.1 dX1_thousandths_42 rfl (lv_at hl 3 rfl) ?_
    obtain ⟨r_43, hc, hs⟩ := bd_e hs
    refine C_call C hI (kX1_pullOf l D cy P0 q z tl xx _ _ _ _ _ _ hc) (rv_X1 hI) ml_X1_126 im_X1_pullOf se_X1_pullOf ini_X1 co_X1_pullOf hyX1_pullOf rfl ⟨by decide, by decide⟩ hl.1 rfl (Nat.le_of_ble_eq_true rfl) dX1_thousandths_43 (fun H locs hI => ?_)
    refine lv_lload C.1 C.2.1 dX1_thousandths_46 (lv_at hl 0 rfl) ?_
    refine lv_lload_n C.1 C.2.1 dX1_thousandths_48 rfl (lv_at hl 1 rfl) ?_
    refine lv_lmul C.1 C.2.1 dX1_thousandths_49 ?_
    refine lv_lsub C.1 C.2.1 dX1_thousandths_50 ?_
    refine lv_lload_n C.1 C.2.1 dX1_thousandths_51 rfl (lv_at hl 1 rfl) ?_
    obtain ⟨hz, hs⟩ := ck_e hs
    refine lv_ldiv C.1 C.2.1 dX1_thousandths_52 (nzL_e hz) ?_
    obtain rfl := Option.some.inj hs
    exact C_lret C hI dX1_thousandths_53
  · have hs := if_t cn hs
    refine lv_ldc2 C.1 C.2.1 C.2.2.2.1 (C.2.2.2.2.1 _ kl_X1_124) dX1_thousandths_35 ?_
    refine lv_goto (tgt := 53) C.1 C.2.1 dX1_thousandths_38 (by decide) ?_
    obtain rfl := Option.some.inj hs
    exact C_lret C hI dX1_thousandths_53

def sX1_loadOf (x1 : Int32) (I : Nat → Int32) (J : Nat → Int64) (A : Nat → Nat → Int32) (B : Nat → Nat → Int64) : Option ((Int32)) :=
(sX1_faceOf x1).bind fun r_5 =>
ck (inB r_5 4) <|
gv (B 67 (ix r_5)) fun x2_9 =>
if (lg_cmp x2_9 (0 : Int64)) = 0 then
(some (0 : Int32))
else
(sX1_pullOf x1 I J A B).bind fun r_22 =>
ck (nzL (x2_9 * (1000 : Int64))) <|
some ((r_22 / (x2_9 * (1000 : Int64))).toInt32)
set_option maxRecDepth 100000 in
set_option maxHeartbeats 8000000 in
theorem kX1_loadOf (l : Launch) (D : va_G) (cy : Nat → ClassId) (P0 : Nat → Prop) (q z : Nat → Nat) (tl : va_W) (xx : (Nat → Option Nat) × (Nat → Option Nat) × Nat) (x1 : Int32) (I : Nat → Int32) (J : Nat → Int64) (A : Nat → Nat → Int32) (B : Nat → Nat → Int64) (r : Int32) (hs : sX1_loadOf x1 I J A B = some r) : McC l yX1_loadOf cX1_loadOf 4 (some .int) 2 [.ref (q 2), .int x1] D cy P0 q z tl xx I J A B (some (.int r)) xx I J A B := by
  refine C_start rfl (Nat.le_of_ble_eq_true rfl) ?_
  intro p e s m args below meth c H locs C hI ls hl
  have hl : lv_has ls 4 [(0, .ref (q 2)), (1, .int x1)] := hl
  rw [sX1_loadOf] at hs
  refine lv_aload_n C.1 C.2.1 dX1_loadOf_0 rfl (lv_at hl 0 rfl) ?_
  refine cg_X1_67 C hI dX1_loadOf_1 ?_
  refine lv_iload_n C.1 C.2.1 dX1_loadOf_4 rfl (lv_at hl 1 rfl) ?_
  obtain ⟨r_5, hc, hs⟩ := bd_e hs
  refine S_call (h := 2) C (kX1_faceOf l _ _ hc) ml_X1_118 st_X1_faceOf ini_X1 co_X1_faceOf hyX1_faceOf rfl ⟨by decide, by decide⟩ hl.1 rfl (Nat.le_of_ble_eq_true rfl) dX1_loadOf_5 ⟨Nat.le_refl 0, Nat.le_refl 0, Nat.le_refl _, Nat.le_refl _⟩ ?_
  obtain ⟨hk, hs⟩ := ck_e hs
  refine ca_67 C hI hk dX1_loadOf_8 ?_
  refine lv_topl (fun x2_9 ex2_9 => ?_)
  have hs := gv_at ex2_9 hs
  refine lv_lstore_n (lv' := [(2, .long x2_9), (0, .ref (q 2)), (1, .int x1)]) C.1 C.2.1 dX1_loadOf_9 rfl hl (by decide) rfl (fun ls hl => ?_)
  refine lv_lload_n C.1 C.2.1 dX1_loadOf_10 rfl (lv_at hl 0 rfl) ?_
  refine lv_lconst (v := 0) C.1 C.2.1 dX1_loadOf_11 (by decide) ?_
  refine W.lcmp C.1 C.2.1 dX1_loadOf_12 ?_
  refine lv_if_ne (tgt := 20) C.1 C.2.1 dX1_loadOf_13 (by decide) (fun cn => ?_) (fun cn => ?_)
  · have hs := if_f cn hs
    refine lv_aload_n C.1 C.2.1 dX1_loadOf_20 rfl (lv_at hl 1 rfl) ?_
    refine lv_iload_n C.1 C.2.1 dX1_loadOf_21 rfl (lv_at hl 2 rfl) ?_
    obtain ⟨r_22, hc, hs⟩ := bd_e hs
    refine C_call C hI (kX1_pullOf l D cy P0 q z tl xx _ _ _ _ _ _ hc) (rv_X1 hI) ml_X1_126 im_X1_pullOf se_X1_pullOf ini_X1 co_X1_pullOf hyX1_pullOf rfl ⟨by decide, by decide⟩ hl.1 rfl (Nat.le_of_ble_eq_true rfl) dX1_loadOf_22 (fun H locs hI => ?_)
    refine lv_lload_n C.1 C.2.1 dX1_loadOf_25 rfl (lv_at hl 0 rfl) ?_
    refine lv_ldc2 C.1 C.2.1 C.2.2.2.1 (C.2.2.2.2.1 _ kl_X1_116) dX1_loadOf_26 ?_
    refine lv_lmul C.1 C.2.1 dX1_loadOf_29 ?_
    obtain ⟨hz, hs⟩ := ck_e hs
    refine lv_ldiv C.1 C.2.1 dX1_loadOf_30 (nzL_e hz) ?_
    refine lv_l2i C.1 C.2.1 dX1_loadOf_31 rfl ?_
    obtain rfl := Option.some.inj hs
    exact C_iret C hI dX1_loadOf_32
  · have hs := if_t cn hs
    refine lv_iconst (v := 0) C.1 C.2.1 dX1_loadOf_16 (by decide) ?_
    refine lv_goto (tgt := 32) C.1 C.2.1 dX1_loadOf_17 (by decide) ?_
    obtain rfl := Option.some.inj hs
    exact C_iret C hI dX1_loadOf_32

def lX1_look_43 : Nat → Int32 → Int32 → Int32 → (Nat → Int32) → (Nat → Int64) → (Nat → Nat → Int32) → (Nat → Nat → Int64) → Option ((Nat → Nat → Int32) × (Nat → Nat → Int64))
  | 0, _, _, _, _, _, _, _ => none
  | n + 1, x1, x2, x3, I, J, A, B =>
    if (8 : Int32) ≤ x3 then
    (some (A, B))
    else
    gv (x2 + x3) fun x4_52 =>
    ck (inB (x3 / (2 : Int32)) 4) <|
    gv (B 67 (ix (x3 / (2 : Int32)))) fun x5_62 =>
    ck (inB x1 6) <|
    if ((ushr (A 60 (ix x1)) x3) &&& (1 : Int32)) = 0 then
    (if (lg_cmp x5_62 (0 : Int64)) = 0 then
    (gv (x3 + 1) fun x3_166 =>
    lX1_look_43 n x1 x2 x3_166 I J A B)
    else
    ck (inB x1 6) <|
    ck (inB x4_52 48) <|
    gv ((1000 : Int64) * ((((A 14 (ix x1)) + (A 51 (ix x4_52)))).toInt64)) fun x7_109 =>
    (sX1_pullOf x4_52 I J A B).bind fun r_114 =>
    gv (r_114 - (x7_109 * x5_62)) fun x9_123 =>
    if (lg_cmp x9_123 (0 : Int64)) ≤ 0 then
    (gv (x3 + 1) fun x3_166 =>
    lX1_look_43 n x1 x2 x3_166 I J A B)
    else
    ck (nzL x5_62) <|
    ck (inB x1 6) <|
    if (lg_cmp (x9_123 / x5_62) (B 62 (ix x1))) ≤ 0 then
    (gv (x3 + 1) fun x3_166 =>
    lX1_look_43 n x1 x2 x3_166 I J A B)
    else
    ck (inB x1 6) <|
    gv (va_up A 61 (upd (A 61) (ix x1) x4_52)) fun A =>
    ck (nzL x5_62) <|
    ck (inB x1 6) <|
    gv (va_up B 62 (vp_updL (B 62) (ix x1) (x9_123 / x5_62))) fun B =>
    gv (x3 + 1) fun x3_166 =>
    lX1_look_43 n x1 x2 x3_166 I J A B)
    else
    gv (x3 + 1) fun x3_166 =>
    lX1_look_43 n x1 x2 x3_166 I J A B
def sX1_look (x1 : Int32) (I : Nat → Int32) (J : Nat → Int64) (A : Nat → Nat → Int32) (B : Nat → Nat → Int64) : Option ((Nat → Int32) × (Nat → Nat → Int32) × (Nat → Nat → Int64)) :=
ck (inB x1 6) <|
gv (va_up A 61 (upd (A 61) (ix x1) (-1 : Int32))) fun A =>
ck (inB x1 6) <|
gv (va_up B 62 (vp_updL (B 62) (ix x1) (-1 : Int64))) fun B =>
ck (inB x1 6) <|
(sX1_stands x1 (A 60 (ix x1)) I J A B).bind fun (r_24, A, B) =>
if r_24 = 0 then
(gv (upd I 54 x1) fun I =>
some (I, A, B))
else
gv (x1 * (8 : Int32)) fun x2_40 =>
(lX1_look_43 FU x1 x2_40 (0 : Int32) I J A B).bind fun (A, B) =>
some (I, A, B)
set_option maxRecDepth 100000 in
set_option maxHeartbeats 8000000 in
theorem kX1_look (l : Launch) (D : va_G) (cy : Nat → ClassId) (P0 : Nat → Prop) (q z : Nat → Nat) (tl : va_W) (xx : (Nat → Option Nat) × (Nat → Option Nat) × Nat) (x1 : Int32) (I : Nat → Int32) (J : Nat → Int64) (A : Nat → Nat → Int32) (B : Nat → Nat → Int64) (I2 : Nat → Int32) (A2 : Nat → Nat → Int32) (B2 : Nat → Nat → Int64) (hs : sX1_look x1 I J A B = some (I2, A2, B2)) : McC l yX1_look cX1_look 11 none 2 [.ref (q 2), .int x1] D cy P0 q z tl xx I J A B none xx I2 J A2 B2 := by
  refine C_start rfl (Nat.le_of_ble_eq_true rfl) ?_
  intro p e s m args below meth c H locs C hI ls hl
  have hl : lv_has ls 11 [(0, .ref (q 2)), (1, .int x1)] := hl
  rw [sX1_look] at hs
  refine lv_aload_n C.1 C.2.1 dX1_look_0 rfl (lv_at hl 0 rfl) ?_
  refine cg_X1_61 C hI dX1_look_1 ?_
  refine lv_iload_n C.1 C.2.1 dX1_look_4 rfl (lv_at hl 1 rfl) ?_
  refine lv_iconst (v := -1) C.1 C.2.1 dX1_look_5 (by decide) ?_
  obtain ⟨hk, hs⟩ := ck_e hs
  refine cs_61 C hI hk dX1_look_6 (fun H locs hI => ?_)
  have hs := gv_be hs
  refine lv_aload_n C.1 C.2.1 dX1_look_7 rfl (lv_at hl 0 rfl) ?_
  refine cg_X1_62 C hI dX1_look_8 ?_
  refine lv_iload_n C.1 C.2.1 dX1_look_11 rfl (lv_at hl 1 rfl) ?_
  refine lv_ldc2 C.1 C.2.1 C.2.2.2.1 (C.2.2.2.2.1 _ kl_X1_130) dX1_look_12 ?_
  obtain ⟨hk, hs⟩ := ck_e hs
  refine cs_62 C hI hk dX1_look_15 (fun H locs hI => ?_)
  have hs := gv_be hs
  refine lv_aload_n C.1 C.2.1 dX1_look_16 rfl (lv_at hl 0 rfl) ?_
  refine lv_iload_n C.1 C.2.1 dX1_look_17 rfl (lv_at hl 1 rfl) ?_
  refine lv_aload_n C.1 C.2.1 dX1_look_18 rfl (lv_at hl 0 rfl) ?_
  refine cg_X1_60 C hI dX1_look_19 ?_
  refine lv_iload_n C.1 C.2.1 dX1_look_22 rfl (lv_at hl 1 rfl) ?_
  obtain ⟨hk, hs⟩ := ck_e hs
  refine ca_60 C hI hk dX1_look_23 ?_
  obtain ⟨⟨r_24, A, B⟩, hc, hs⟩ := bd_e hs
  refine C_call C hI (kX1_stands l D cy P0 q z tl xx _ _ _ _ _ _ _ _ _ hc) (rv_X1 hI) ml_X1_132 im_X1_stands se_X1_stands ini_X1 co_X1_stands hyX1_stands rfl ⟨by decide, by decide⟩ hl.1 rfl (Nat.le_of_ble_eq_true rfl) dX1_look_24 (fun H locs hI => ?_)
  refine lv_if_ne (tgt := 36) C.1 C.2.1 dX1_look_27 (by decide) (fun cn => ?_) (fun cn => ?_)
  · have hs := if_f cn hs
    refine lv_iload_n C.1 C.2.1 dX1_look_36 rfl (lv_at hl 1 rfl) ?_
    refine lv_bipush (v := 8) C.1 C.2.1 dX1_look_37 (by decide) ?_
    refine lv_imul C.1 C.2.1 dX1_look_39 ?_
    refine lv_topi (fun x2_40 ex2_40 => ?_)
    have hs := gv_at ex2_40 hs
    refine lv_istore_n (lv' := [(2, .int x2_40), (0, .ref (q 2)), (1, .int x1)]) C.1 C.2.1 dX1_look_40 rfl hl (by decide) rfl (fun ls hl => ?_)
    refine lv_iconst (v := 0) C.1 C.2.1 dX1_look_41 (by decide) ?_
    refine lv_istore_n (lv' := [(3, .int (0 : Int32)), (2, .int x2_40), (0, .ref (q 2)), (1, .int x1)]) C.1 C.2.1 dX1_look_42 rfl hl (by decide) rfl (fun ls hl => ?_)
    have KL_43 : ∀ (n : Nat) (x1 : Int32) (x2 : Int32) (x3 : Int32) (I : Nat → Int32) (J : Nat → Int64) (A : Nat → Nat → Int32) (B : Nat → Nat → Int64) (o : (Nat → Nat → Int32) × (Nat → Nat → Int64)) (Q : State → Prop) (H : Heap) (locs : List Loc) (ls : Array Slot), lX1_look_43 n x1 x2 x3 I J A B = some o → CI D cy s P0 s.heap H locs q z tl xx I J A B → lv_has ls 11 [(0, .ref (q 2)), (1, .int x1), (2, .int x2), (3, .int x3)] → (∀ (A_0 : Nat → Nat → Int32) (B_0 : Nat → Nat → Int64) (H : Heap) (locs : List Loc) (ls : Array Slot), o = (A_0, B_0) → CI D cy s P0 s.heap H locs q z tl xx I J A_0 B_0 → lv_has ls 11 [] → W p l e (rmL 2) s m args below meth c H locs 0 0 Q (F0 m 172 ls [])) → W p l e (rmL 2) s m args below meth c H locs 0 0 Q (F0 m 43 ls []) := by
      intro n; induction n with
      | zero => intro x1 x2 x3 I J A B o Q H locs ls hs; rw [lX1_look_43] at hs; cases hs
      | succ n ih =>
        intro x1 x2 x3 I J A B o Q H locs ls hs hI hl kk0
        rw [lX1_look_43] at hs
        refine lv_iload_n C.1 C.2.1 dX1_look_43 rfl (lv_at hl 3 rfl) ?_
        refine lv_bipush (v := 8) C.1 C.2.1 dX1_look_44 (by decide) ?_
        refine lv_icmp_ge (tgt := 172) C.1 C.2.1 dX1_look_46 (by decide) (fun cn => ?_) (fun cn => ?_)
        · have hs := if_t cn hs
          have eo := (Option.some.inj hs).symm
          exact kk0 _ _ _ _ _ eo hI (lv_sub hl [] rfl)
        · have hs := if_f cn hs
          refine lv_iload_n C.1 C.2.1 dX1_look_49 rfl (lv_at hl 2 rfl) ?_
          refine lv_iload_n C.1 C.2.1 dX1_look_50 rfl (lv_at hl 3 rfl) ?_
          refine lv_iadd C.1 C.2.1 dX1_look_51 ?_
          refine lv_topi (fun x4_52 ex4_52 => ?_)
          have hs := gv_at ex4_52 hs
          refine lv_istore (lv' := [(4, .int x4_52), (0, .ref (q 2)), (1, .int x1), (2, .int x2), (3, .int x3)]) C.1 C.2.1 dX1_look_52 hl (by decide) rfl (fun ls hl => ?_)
          refine lv_aload_n C.1 C.2.1 dX1_look_54 rfl (lv_at hl 1 rfl) ?_
          refine cg_X1_67 C hI dX1_look_55 ?_
          refine lv_iload_n C.1 C.2.1 dX1_look_58 rfl (lv_at hl 4 rfl) ?_
          refine lv_iconst (v := 2) C.1 C.2.1 dX1_look_59 (by decide) ?_
          refine lv_idiv C.1 C.2.1 dX1_look_60 (by decide) ?_
          obtain ⟨hk, hs⟩ := ck_e hs
          refine ca_67 C hI hk dX1_look_61 ?_
          refine lv_topl (fun x5_62 ex5_62 => ?_)
          have hs := gv_at ex5_62 hs
          refine lv_lstore (lv' := [(5, .long x5_62), (4, .int x4_52), (0, .ref (q 2)), (1, .int x1), (2, .int x2), (3, .int x3)]) C.1 C.2.1 dX1_look_62 hl (by decide) rfl (fun ls hl => ?_)
          refine lv_aload_n C.1 C.2.1 dX1_look_64 rfl (lv_at hl 2 rfl) ?_
          refine cg_X1_60 C hI dX1_look_65 ?_
          refine lv_iload_n C.1 C.2.1 dX1_look_68 rfl (lv_at hl 3 rfl) ?_
          obtain ⟨hk, hs⟩ := ck_e hs
          refine ca_60 C hI hk dX1_look_69 ?_
          refine lv_iload_n C.1 C.2.1 dX1_look_70 rfl (lv_at hl 5 rfl) ?_
          refine lv_iushr (v := ushr _ _) C.1 C.2.1 dX1_look_71 rfl ?_
          refine lv_iconst (v := 1) C.1 C.2.1 dX1_look_72 (by decide) ?_
          refine lv_iand C.1 C.2.1 dX1_look_73 ?_
          refine lv_if_ne (tgt := 166) C.1 C.2.1 dX1_look_74 (by decide) (fun cn => ?_) (fun cn => ?_)
          · have hs := if_f cn hs
            obtain ⟨x3_166, ex3_166⟩ : ∃ y : Int32, y = (x3 + 1) := ⟨_, rfl⟩
            have hs := gv_at ex3_166 hs
            refine lv_iinc (v := x3_166) (lv' := [(3, .int x3_166), (5, .long x5_62), (4, .int x4_52), (0, .ref (q 2)), (1, .int x1), (2, .int x2)]) C.1 C.2.1 dX1_look_166 hl (k := 5) rfl (by rw [ex3_166]; rfl) (by decide) rfl (fun ls hl => ?_)
            refine lv_goto (tgt := 43) C.1 C.2.1 dX1_look_169 (by decide) ?_
            exact ih _ _ _ _ _ _ _ _ _ _ _ _ hs hI (lv_sub hl [3, 4, 5, 0] rfl) kk0
          · have hs := if_t cn hs
            refine lv_lload C.1 C.2.1 dX1_look_77 (lv_at hl 0 rfl) ?_
            refine lv_lconst (v := 0) C.1 C.2.1 dX1_look_79 (by decide) ?_
            refine W.lcmp C.1 C.2.1 dX1_look_80 ?_
            refine lv_if_ne (tgt := 87) C.1 C.2.1 dX1_look_81 (by decide) (fun cn => ?_) (fun cn => ?_)
            · have hs := if_f cn hs
              refine lv_ldc2 C.1 C.2.1 C.2.2.2.1 (C.2.2.2.2.1 _ kl_X1_116) dX1_look_87 ?_
              refine lv_aload_n C.1 C.2.1 dX1_look_90 rfl (lv_at hl 2 rfl) ?_
              refine cg_X1_50 C hI dX1_look_91 ?_
              refine cg_X1_14 C hI dX1_look_94 ?_
              refine lv_iload_n C.1 C.2.1 dX1_look_97 rfl (lv_at hl 3 rfl) ?_
              obtain ⟨hk, hs⟩ := ck_e hs
              refine ca_14 C hI hk dX1_look_98 ?_
              refine lv_aload_n C.1 C.2.1 dX1_look_99 rfl (lv_at hl 2 rfl) ?_
              refine cg_X1_51 C hI dX1_look_100 ?_
              refine lv_iload C.1 C.2.1 dX1_look_103 (lv_at hl 1 rfl) ?_
              obtain ⟨hk, hs⟩ := ck_e hs
              refine ca_51 C hI hk dX1_look_105 ?_
              refine lv_iadd C.1 C.2.1 dX1_look_106 ?_
              refine lv_i2l C.1 C.2.1 dX1_look_107 rfl ?_
              refine lv_lmul C.1 C.2.1 dX1_look_108 ?_
              refine lv_topl (fun x7_109 ex7_109 => ?_)
              have hs := gv_at ex7_109 hs
              refine lv_lstore (lv' := [(7, .long x7_109), (5, .long x5_62), (4, .int x4_52), (0, .ref (q 2)), (1, .int x1), (2, .int x2), (3, .int x3)]) C.1 C.2.1 dX1_look_109 hl (by decide) rfl (fun ls hl => ?_)
              refine lv_aload_n C.1 C.2.1 dX1_look_111 rfl (lv_at hl 3 rfl) ?_
              refine lv_iload C.1 C.2.1 dX1_look_112 (lv_at hl 2 rfl) ?_
              obtain ⟨r_114, hc, hs⟩ := bd_e hs
              refine C_call C hI (kX1_pullOf l D cy P0 q z tl xx _ _ _ _ _ _ hc) (rv_X1 hI) ml_X1_126 im_X1_pullOf se_X1_pullOf ini_X1 co_X1_pullOf hyX1_pullOf rfl ⟨by decide, by decide⟩ hl.1 rfl (Nat.le_of_ble_eq_true rfl) dX1_look_114 (fun H locs hI => ?_)
              refine lv_lload C.1 C.2.1 dX1_look_117 (lv_at hl 0 rfl) ?_
              refine lv_lload C.1 C.2.1 dX1_look_119 (lv_at hl 1 rfl) ?_
              refine lv_lmul C.1 C.2.1 dX1_look_121 ?_
              refine lv_lsub C.1 C.2.1 dX1_look_122 ?_
              refine lv_topl (fun x9_123 ex9_123 => ?_)
              have hs := gv_at ex9_123 hs
              refine lv_lstore (lv' := [(9, .long x9_123), (7, .long x7_109), (5, .long x5_62), (4, .int x4_52), (0, .ref (q 2)), (1, .int x1), (2, .int x2), (3, .int x3)]) C.1 C.2.1 dX1_look_123 hl (by decide) rfl (fun ls hl => ?_)
              refine lv_lload C.1 C.2.1 dX1_look_125 (lv_at hl 0 rfl) ?_
              refine lv_lconst (v := 0) C.1 C.2.1 dX1_look_127 (by decide) ?_
              refine W.lcmp C.1 C.2.1 dX1_look_128 ?_
              refine lv_if_le (tgt := 166) C.1 C.2.1 dX1_look_129 (by decide) (fun cn => ?_) (fun cn => ?_)
              · have hs := if_t cn hs
                obtain ⟨x3_166, ex3_166⟩ : ∃ y : Int32, y = (x3 + 1) := ⟨_, rfl⟩
                have hs := gv_at ex3_166 hs
                refine lv_iinc (v := x3_166) (lv' := [(3, .int x3_166), (9, .long x9_123), (7, .long x7_109), (5, .long x5_62), (4, .int x4_52), (0, .ref (q 2)), (1, .int x1), (2, .int x2)]) C.1 C.2.1 dX1_look_166 hl (k := 7) rfl (by rw [ex3_166]; rfl) (by decide) rfl (fun ls hl => ?_)
                refine lv_goto (tgt := 43) C.1 C.2.1 dX1_look_169 (by decide) ?_
                exact ih _ _ _ _ _ _ _ _ _ _ _ _ hs hI (lv_sub hl [5, 6, 7, 0] rfl) kk0
              · have hs := if_f cn hs
                refine lv_lload C.1 C.2.1 dX1_look_132 (lv_at hl 0 rfl) ?_
                refine lv_lload C.1 C.2.1 dX1_look_134 (lv_at hl 2 rfl) ?_
                obtain ⟨hz, hs⟩ := ck_e hs
                refine lv_ldiv C.1 C.2.1 dX1_look_136 (nzL_e hz) ?_
                refine lv_aload_n C.1 C.2.1 dX1_look_137 rfl (lv_at hl 4 rfl) ?_
                refine cg_X1_62 C hI dX1_look_138 ?_
                refine lv_iload_n C.1 C.2.1 dX1_look_141 rfl (lv_at hl 5 rfl) ?_
                obtain ⟨hk, hs⟩ := ck_e hs
                refine ca_62 C hI hk dX1_look_142 ?_
                refine W.lcmp C.1 C.2.1 dX1_look_143 ?_
                refine lv_if_le (tgt := 166) C.1 C.2.1 dX1_look_144 (by decide) (fun cn => ?_) (fun cn => ?_)
                · have hs := if_t cn hs
                  obtain ⟨x3_166, ex3_166⟩ : ∃ y : Int32, y = (x3 + 1) := ⟨_, rfl⟩
                  have hs := gv_at ex3_166 hs
                  refine lv_iinc (v := x3_166) (lv' := [(3, .int x3_166), (9, .long x9_123), (7, .long x7_109), (5, .long x5_62), (4, .int x4_52), (0, .ref (q 2)), (1, .int x1), (2, .int x2)]) C.1 C.2.1 dX1_look_166 hl (k := 7) rfl (by rw [ex3_166]; rfl) (by decide) rfl (fun ls hl => ?_)
                  refine lv_goto (tgt := 43) C.1 C.2.1 dX1_look_169 (by decide) ?_
                  exact ih _ _ _ _ _ _ _ _ _ _ _ _ hs hI (lv_sub hl [5, 6, 7, 0] rfl) kk0
                · have hs := if_f cn hs
                  refine lv_aload_n C.1 C.2.1 dX1_look_147 rfl (lv_at hl 4 rfl) ?_
                  refine cg_X1_61 C hI dX1_look_148 ?_
                  refine lv_iload_n C.1 C.2.1 dX1_look_151 rfl (lv_at hl 5 rfl) ?_
                  refine lv_iload C.1 C.2.1 dX1_look_152 (lv_at hl 3 rfl) ?_
                  obtain ⟨hk, hs⟩ := ck_e hs
                  refine cs_61 C hI hk dX1_look_154 (fun H locs hI => ?_)
                  have hs := gv_be hs
                  refine lv_aload_n C.1 C.2.1 dX1_look_155 rfl (lv_at hl 4 rfl) ?_
                  refine cg_X1_62 C hI dX1_look_156 ?_
                  refine lv_iload_n C.1 C.2.1 dX1_look_159 rfl (lv_at hl 5 rfl) ?_
                  refine lv_lload C.1 C.2.1 dX1_look_160 (lv_at hl 0 rfl) ?_
                  refine lv_lload C.1 C.2.1 dX1_look_162 (lv_at hl 2 rfl) ?_
                  obtain ⟨hz, hs⟩ := ck_e hs
                  refine lv_ldiv C.1 C.2.1 dX1_look_164 (nzL_e hz) ?_
                  obtain ⟨hk, hs⟩ := ck_e hs
                  refine cs_62 C hI hk dX1_look_165 (fun H locs hI => ?_)
                  have hs := gv_be hs
                  obtain ⟨x3_166, ex3_166⟩ : ∃ y : Int32, y = (x3 + 1) := ⟨_, rfl⟩
                  have hs := gv_at ex3_166 hs
                  refine lv_iinc (v := x3_166) (lv' := [(3, .int x3_166), (9, .long x9_123), (7, .long x7_109), (5, .long x5_62), (4, .int x4_52), (0, .ref (q 2)), (1, .int x1), (2, .int x2)]) C.1 C.2.1 dX1_look_166 hl (k := 7) rfl (by rw [ex3_166]; rfl) (by decide) rfl (fun ls hl => ?_)
                  refine lv_goto (tgt := 43) C.1 C.2.1 dX1_look_169 (by decide) ?_
                  exact ih _ _ _ _ _ _ _ _ _ _ _ _ hs hI (lv_sub hl [5, 6, 7, 0] rfl) kk0
            · have hs := if_t cn hs
              refine lv_goto (tgt := 166) C.1 C.2.1 dX1_look_84 (by decide) ?_
              obtain ⟨x3_166, ex3_166⟩ : ∃ y : Int32, y = (x3 + 1) := ⟨_, rfl⟩
              have hs := gv_at ex3_166 hs
              refine lv_iinc (v := x3_166) (lv' := [(3, .int x3_166), (5, .long x5_62), (4, .int x4_52), (0, .ref (q 2)), (1, .int x1), (2, .int x2)]) C.1 C.2.1 dX1_look_166 hl (k := 5) rfl (by rw [ex3_166]; rfl) (by decide) rfl (fun ls hl => ?_)
              refine lv_goto (tgt := 43) C.1 C.2.1 dX1_look_169 (by decide) ?_
              exact ih _ _ _ _ _ _ _ _ _ _ _ _ hs hI (lv_sub hl [3, 4, 5, 0] rfl) kk0
    obtain ⟨⟨A_L, B_L⟩, hL, hs⟩ := bd_e hs
    refine KL_43 FU _ _ _ _ _ _ _ _ _ _ _ _ hL hI (lv_sub hl [2, 3, 1, 0] rfl) (fun z0 z1 H locs ls eo hI hl => ?_)
    obtain ⟨rfl, rfl⟩ := pr2 eo
    obtain ⟨rfl, rfl, rfl⟩ := so3 hs
    exact C_vret C hI dX1_look_172
  · have hs := if_t cn hs
    refine lv_aload_n C.1 C.2.1 dX1_look_30 rfl (lv_at hl 0 rfl) ?_
    refine lv_iload_n C.1 C.2.1 dX1_look_31 rfl (lv_at hl 1 rfl) ?_
    refine cp_X1_54 C hI dX1_look_32 (fun H locs hI => ?_)
    have hs := gv_be hs
    obtain ⟨rfl, rfl, rfl⟩ := so3 hs
    exact C_vret C hI dX1_look_35

def lX1_facesAreEnough_13 : Nat → Int32 → Int32 → Int32 → Int64 → Int64 → Int32 → (Nat → Int32) → (Nat → Int64) → (Nat → Nat → Int32) → (Nat → Nat → Int64) → Option (Int32 × Int32 × Int64 × Int64 × (Nat → Int64) × (Nat → Nat → Int32) × (Nat → Nat → Int64))
  | 0, _, _, _, _, _, _, _, _, _, _ => none
  | n + 1, x1, x2, x3, x4, x6, x8, I, J, A, B =>
    if (I 32) ≤ x8 then
    (some (x2, x3, x4, x6, J, A, B))
    else
    (sX1_blow x8 (1 : Int32) I J A B).bind fun J =>
    (sX1_stands (x1 / (8 : Int32)) (0 : Int32) I J A B).bind fun (r_41, A, B) =>
    gv (fun (y0_j56 : Int64) (J : Nat → Int64) (A : Nat → Nat → Int32) (B : Nat → Nat → Int64) =>
    (sX4_isOnFace x8 I J A B).bind fun r_64 =>
    if r_64 = 0 then
    (if x3 = 0 then
    (gv (x8 + 1) fun x8_113 =>
    lX1_facesAreEnough_13 n x1 x2 (1 : Int32) x4 y0_j56 x8_113 I J A B)
    else
    gv (if y0_j56 < x6 then x6 else y0_j56) fun x6_109 =>
    gv (x8 + 1) fun x8_113 =>
    lX1_facesAreEnough_13 n x1 x2 (1 : Int32) x4 x6_109 x8_113 I J A B)
    else
    if x2 = 0 then
    (gv (x8 + 1) fun x8_113 =>
    lX1_facesAreEnough_13 n x1 (1 : Int32) x3 y0_j56 x6 x8_113 I J A B)
    else
    gv (if y0_j56 < x4 then x4 else y0_j56) fun x4_86 =>
    gv (x8 + 1) fun x8_113 =>
    lX1_facesAreEnough_13 n x1 (1 : Int32) x3 x4_86 x6 x8_113 I J A B) fun k_56 =>
    if r_41 = 0 then
    (k_56 (0 : Int64) J A B)
    else
    (sX1_pullOf x1 I J A B).bind fun r_49 =>
    k_56 r_49 J A B
def sX1_facesAreEnough (x1 : Int32) (I : Nat → Int32) (J : Nat → Int64) (A : Nat → Nat → Int32) (B : Nat → Nat → Int64) : Option ((Int32) × (Nat → Int64) × (Nat → Nat → Int32) × (Nat → Nat → Int64)) :=
(lX1_facesAreEnough_13 FU x1 (0 : Int32) (0 : Int32) (0 : Int64) (0 : Int64) (0 : Int32) I J A B).bind fun (x2_13, x3_13, x4_13, x6_13, J, A, B) =>
gv (if x3_13 = 0 then (1 : Int32) else (if x2_13 = 0 then (0 : Int32) else (if 0 < (lg_cmp x6_13 x4_13) then (0 : Int32) else (1 : Int32)))) fun v_140 =>
some (v_140, J, A, B)
set_option maxRecDepth 100000 in
set_option maxHeartbeats 8000000 in
theorem kX1_facesAreEnough (l : Launch) (D : va_G) (cy : Nat → ClassId) (P0 : Nat → Prop) (q z : Nat → Nat) (tl : va_W) (xx : (Nat → Option Nat) × (Nat → Option Nat) × Nat) (x1 : Int32) (I : Nat → Int32) (J : Nat → Int64) (A : Nat → Nat → Int32) (B : Nat → Nat → Int64) (r : Int32) (J2 : Nat → Int64) (A2 : Nat → Nat → Int32) (B2 : Nat → Nat → Int64) (hs : sX1_facesAreEnough x1 I J A B = some (r, J2, A2, B2)) : McC l yX1_facesAreEnough cX1_facesAreEnough 11 (some .boolean) 2 [.ref (q 2), .int x1] D cy P0 q z tl xx I J A B (some (.int r)) xx I J2 A2 B2 := by
  refine C_start rfl (Nat.le_of_ble_eq_true rfl) ?_
  intro p e s m args below meth c H locs C hI ls hl
  have hl : lv_has ls 11 [(0, .ref (q 2)), (1, .int x1)] := hl
  rw [sX1_facesAreEnough] at hs
  refine lv_iconst (v := 0) C.1 C.2.1 dX1_facesAreEnough_0 (by decide) ?_
  refine lv_istore_n (lv' := [(2, .int (0 : Int32)), (0, .ref (q 2)), (1, .int x1)]) C.1 C.2.1 dX1_facesAreEnough_1 rfl hl (by decide) rfl (fun ls hl => ?_)
  refine lv_iconst (v := 0) C.1 C.2.1 dX1_facesAreEnough_2 (by decide) ?_
  refine lv_istore_n (lv' := [(3, .int (0 : Int32)), (2, .int (0 : Int32)), (0, .ref (q 2)), (1, .int x1)]) C.1 C.2.1 dX1_facesAreEnough_3 rfl hl (by decide) rfl (fun ls hl => ?_)
  refine lv_lconst (v := 0) C.1 C.2.1 dX1_facesAreEnough_4 (by decide) ?_
  refine lv_lstore (lv' := [(4, .long (0 : Int64)), (3, .int (0 : Int32)), (2, .int (0 : Int32)), (0, .ref (q 2)), (1, .int x1)]) C.1 C.2.1 dX1_facesAreEnough_5 hl (by decide) rfl (fun ls hl => ?_)
  refine lv_lconst (v := 0) C.1 C.2.1 dX1_facesAreEnough_7 (by decide) ?_
  refine lv_lstore (lv' := [(6, .long (0 : Int64)), (4, .long (0 : Int64)), (3, .int (0 : Int32)), (2, .int (0 : Int32)), (0, .ref (q 2)), (1, .int x1)]) C.1 C.2.1 dX1_facesAreEnough_8 hl (by decide) rfl (fun ls hl => ?_)
  refine lv_iconst (v := 0) C.1 C.2.1 dX1_facesAreEnough_10 (by decide) ?_
  refine lv_istore (lv' := [(8, .int (0 : Int32)), (6, .long (0 : Int64)), (4, .long (0 : Int64)), (3, .int (0 : Int32)), (2, .int (0 : Int32)), (0, .ref (q 2)), (1, .int x1)]) C.1 C.2.1 dX1_facesAreEnough_11 hl (by decide) rfl (fun ls hl => ?_)
  have KL_13 : ∀ (n : Nat) (x1 : Int32) (x2 : Int32) (x3 : Int32) (x4 : Int64) (x6 : Int64) (x8 : Int32) (I : Nat → Int32) (J : Nat → Int64) (A : Nat → Nat → Int32) (B : Nat → Nat → Int64) (o : Int32 × Int32 × Int64 × Int64 × (Nat → Int64) × (Nat → Nat → Int32) × (Nat → Nat → Int64)) (Q : State → Prop) (H : Heap) (locs : List Loc) (ls : Array Slot), lX1_facesAreEnough_13 n x1 x2 x3 x4 x6 x8 I J A B = some o → CI D cy s P0 s.heap H locs q z tl xx I J A B → lv_has ls 11 [(0, .ref (q 2)), (1, .int x1), (2, .int x2), (3, .int x3), (4, .long x4), (6, .long x6), (8, .int x8)] → (∀ (o2_0 : Int32) (o3_0 : Int32) (o4_0 : Int64) (o6_0 : Int64) (J_0 : Nat → Int64) (A_0 : Nat → Nat → Int32) (B_0 : Nat → Nat → Int64) (H : Heap) (locs : List Loc) (ls : Array Slot), o = (o2_0, o3_0, o4_0, o6_0, J_0, A_0, B_0) → CI D cy s P0 s.heap H locs q z tl xx I J_0 A_0 B_0 → lv_has ls 11 [(2, .int o2_0), (3, .int o3_0), (4, .long o4_0), (6, .long o6_0)] → W p l e (rmL 2) s m args below meth c H locs 0 0 Q (F0 m 119 ls [])) → W p l e (rmL 2) s m args below meth c H locs 0 0 Q (F0 m 13 ls []) := by
    intro n; induction n with
    | zero => intro x1 x2 x3 x4 x6 x8 I J A B o Q H locs ls hs; rw [lX1_facesAreEnough_13] at hs; cases hs
    | succ n ih =>
      intro x1 x2 x3 x4 x6 x8 I J A B o Q H locs ls hs hI hl kk0
      rw [lX1_facesAreEnough_13] at hs
      refine lv_iload C.1 C.2.1 dX1_facesAreEnough_13 (lv_at hl 6 rfl) ?_
      refine lv_aload_n C.1 C.2.1 dX1_facesAreEnough_15 rfl (lv_at hl 0 rfl) ?_
      refine cg_X1_50 C hI dX1_facesAreEnough_16 ?_
      refine cg_X1_17 C hI dX1_facesAreEnough_19 ?_
      refine cg_X1_32 C hI dX1_facesAreEnough_22 ?_
      refine lv_icmp_ge (tgt := 119) C.1 C.2.1 dX1_facesAreEnough_25 (by decide) (fun cn => ?_) (fun cn => ?_)
      · have hs := if_t cn hs
        have eo := (Option.some.inj hs).symm
        exact kk0 _ _ _ _ _ _ _ _ _ _ eo hI (lv_sub hl [2, 3, 4, 5] rfl)
      · have hs := if_f cn hs
        refine lv_aload_n C.1 C.2.1 dX1_facesAreEnough_28 rfl (lv_at hl 0 rfl) ?_
        refine lv_iload C.1 C.2.1 dX1_facesAreEnough_29 (lv_at hl 6 rfl) ?_
        refine lv_iconst (v := 1) C.1 C.2.1 dX1_facesAreEnough_31 (by decide) ?_
        obtain ⟨J, hc, hs⟩ := bd_e hs
        refine C_call C hI (kX1_blow l D cy P0 q z tl xx _ _ _ _ _ _ _ hc) (rv_X1 hI) ml_X1_136 im_X1_blow se_X1_blow ini_X1 co_X1_blow hyX1_blow rfl ⟨by decide, by decide⟩ hl.1 rfl (Nat.le_of_ble_eq_true rfl) dX1_facesAreEnough_32 (fun H locs hI => ?_)
        refine lv_aload_n C.1 C.2.1 dX1_facesAreEnough_35 rfl (lv_at hl 0 rfl) ?_
        refine lv_iload_n C.1 C.2.1 dX1_facesAreEnough_36 rfl (lv_at hl 1 rfl) ?_
        refine lv_bipush (v := 8) C.1 C.2.1 dX1_facesAreEnough_37 (by decide) ?_
        refine lv_idiv C.1 C.2.1 dX1_facesAreEnough_39 (by decide) ?_
        refine lv_iconst (v := 0) C.1 C.2.1 dX1_facesAreEnough_40 (by decide) ?_
        obtain ⟨⟨r_41, A, B⟩, hc, hs⟩ := bd_e hs
        refine C_call C hI (kX1_stands l D cy P0 q z tl xx _ _ _ _ _ _ _ _ _ hc) (rv_X1 hI) ml_X1_132 im_X1_stands se_X1_stands ini_X1 co_X1_stands hyX1_stands rfl ⟨by decide, by decide⟩ hl.1 rfl (Nat.le_of_ble_eq_true rfl) dX1_facesAreEnough_41 (fun H locs hI => ?_)
        obtain ⟨k_56, ek_56, hs⟩ := gv_ex hs
        have KJ_56 : ∀ (y0_j56 : Int64) (J : Nat → Int64) (A : Nat → Nat → Int32) (B : Nat → Nat → Int64) (H : Heap) (locs : List Loc) (ls : Array Slot), k_56 y0_j56 J A B = some o → CI D cy s P0 s.heap H locs q z tl xx I J A B → lv_has ls 11 [(0, .ref (q 2)), (1, .int x1), (2, .int x2), (3, .int x3), (4, .long x4), (6, .long x6), (8, .int x8)] → W p l e (rmL 2) s m args below meth c H locs 0 0 Q (F0 m 56 ls [.long y0_j56]) := by
          intro y0_j56 J A B H locs ls hs hI hl
          rw [ek_56] at hs
          refine lv_lstore (lv' := [(9, .long y0_j56), (0, .ref (q 2)), (1, .int x1), (2, .int x2), (3, .int x3), (4, .long x4), (6, .long x6), (8, .int x8)]) C.1 C.2.1 dX1_facesAreEnough_56 hl (by decide) rfl (fun ls hl => ?_)
          refine lv_aload_n C.1 C.2.1 dX1_facesAreEnough_58 rfl (lv_at hl 1 rfl) ?_
          refine cg_X1_50 C hI dX1_facesAreEnough_59 ?_
          refine lv_iload C.1 C.2.1 dX1_facesAreEnough_62 (lv_at hl 7 rfl) ?_
          obtain ⟨r_64, hc, hs⟩ := bd_e hs
          refine C_call C hI (kX4_isOnFace l D cy P0 q z tl xx _ _ _ _ _ _ hc) (rv_X4 hI) ml_X1_155 im_X4_isOnFace se_X4_isOnFace ini_X4 co_X4_isOnFace hyX4_isOnFace rfl ⟨by decide, by decide⟩ hl.1 rfl (Nat.le_of_ble_eq_true rfl) dX1_facesAreEnough_64 (fun H locs hI => ?_)
          refine lv_if_eq (tgt := 93) C.1 C.2.1 dX1_facesAreEnough_67 (by decide) (fun cn => ?_) (fun cn => ?_)
          · have hs := if_t cn hs
            refine lv_iload_n C.1 C.2.1 dX1_facesAreEnough_93 rfl (lv_at hl 4 rfl) ?_
            refine lv_if_eq (tgt := 107) C.1 C.2.1 dX1_facesAreEnough_94 (by decide) (fun cn => ?_) (fun cn => ?_)
            · have hs := if_t cn hs
              refine lv_lload C.1 C.2.1 dX1_facesAreEnough_107 (lv_at hl 0 rfl) ?_
              refine lv_lstore (lv' := [(6, .long y0_j56), (9, .long y0_j56), (0, .ref (q 2)), (1, .int x1), (2, .int x2), (3, .int x3), (4, .long x4), (8, .int x8)]) C.1 C.2.1 dX1_facesAreEnough_109 hl (by decide) rfl (fun ls hl => ?_)
              refine lv_iconst (v := 1) C.1 C.2.1 dX1_facesAreEnough_111 (by decide) ?_
              refine lv_istore_n (lv' := [(3, .int (1 : Int32)), (6, .long y0_j56), (9, .long y0_j56), (0, .ref (q 2)), (1, .int x1), (2, .int x2), (4, .long x4), (8, .int x8)]) C.1 C.2.1 dX1_facesAreEnough_112 rfl hl (by decide) rfl (fun ls hl => ?_)
              obtain ⟨x8_113, ex8_113⟩ : ∃ y : Int32, y = (x8 + 1) := ⟨_, rfl⟩
              have hs := gv_at ex8_113 hs
              refine lv_iinc (v := x8_113) (lv' := [(8, .int x8_113), (3, .int (1 : Int32)), (6, .long y0_j56), (9, .long y0_j56), (0, .ref (q 2)), (1, .int x1), (2, .int x2), (4, .long x4)]) C.1 C.2.1 dX1_facesAreEnough_113 hl (k := 7) rfl (by rw [ex8_113]; rfl) (by decide) rfl (fun ls hl => ?_)
              refine lv_goto (tgt := 13) C.1 C.2.1 dX1_facesAreEnough_116 (by decide) ?_
              exact ih _ _ _ _ _ _ _ _ _ _ _ _ _ _ _ hs hI (lv_sub hl [4, 5, 6, 1, 7, 2, 0] rfl) kk0
            · have hs := if_f cn hs
              refine lv_lload C.1 C.2.1 dX1_facesAreEnough_97 (lv_at hl 6 rfl) ?_
              refine lv_lload C.1 C.2.1 dX1_facesAreEnough_99 (lv_at hl 0 rfl) ?_
              refine c_maxL C hl.1 ml_X1_159 (by decide) (Nat.le_of_ble_eq_true rfl) dX1_facesAreEnough_101 ?_
              refine lv_goto (tgt := 109) C.1 C.2.1 dX1_facesAreEnough_104 (by decide) ?_
              refine lv_topl (fun x6_109 ex6_109 => ?_)
              have hs := gv_at ex6_109 hs
              refine lv_lstore (lv' := [(6, .long x6_109), (9, .long y0_j56), (0, .ref (q 2)), (1, .int x1), (2, .int x2), (3, .int x3), (4, .long x4), (8, .int x8)]) C.1 C.2.1 dX1_facesAreEnough_109 hl (by decide) rfl (fun ls hl => ?_)
              refine lv_iconst (v := 1) C.1 C.2.1 dX1_facesAreEnough_111 (by decide) ?_
              refine lv_istore_n (lv' := [(3, .int (1 : Int32)), (6, .long x6_109), (9, .long y0_j56), (0, .ref (q 2)), (1, .int x1), (2, .int x2), (4, .long x4), (8, .int x8)]) C.1 C.2.1 dX1_facesAreEnough_112 rfl hl (by decide) rfl (fun ls hl => ?_)
              obtain ⟨x8_113, ex8_113⟩ : ∃ y : Int32, y = (x8 + 1) := ⟨_, rfl⟩
              have hs := gv_at ex8_113 hs
              refine lv_iinc (v := x8_113) (lv' := [(8, .int x8_113), (3, .int (1 : Int32)), (6, .long x6_109), (9, .long y0_j56), (0, .ref (q 2)), (1, .int x1), (2, .int x2), (4, .long x4)]) C.1 C.2.1 dX1_facesAreEnough_113 hl (k := 7) rfl (by rw [ex8_113]; rfl) (by decide) rfl (fun ls hl => ?_)
              refine lv_goto (tgt := 13) C.1 C.2.1 dX1_facesAreEnough_116 (by decide) ?_
              exact ih _ _ _ _ _ _ _ _ _ _ _ _ _ _ _ hs hI (lv_sub hl [4, 5, 6, 1, 7, 2, 0] rfl) kk0
          · have hs := if_f cn hs
            refine lv_iload_n C.1 C.2.1 dX1_facesAreEnough_70 rfl (lv_at hl 3 rfl) ?_
            refine lv_if_eq (tgt := 84) C.1 C.2.1 dX1_facesAreEnough_71 (by decide) (fun cn => ?_) (fun cn => ?_)
            · have hs := if_t cn hs
              refine lv_lload C.1 C.2.1 dX1_facesAreEnough_84 (lv_at hl 0 rfl) ?_
              refine lv_lstore (lv' := [(4, .long y0_j56), (9, .long y0_j56), (0, .ref (q 2)), (1, .int x1), (2, .int x2), (3, .int x3), (6, .long x6), (8, .int x8)]) C.1 C.2.1 dX1_facesAreEnough_86 hl (by decide) rfl (fun ls hl => ?_)
              refine lv_iconst (v := 1) C.1 C.2.1 dX1_facesAreEnough_88 (by decide) ?_
              refine lv_istore_n (lv' := [(2, .int (1 : Int32)), (4, .long y0_j56), (9, .long y0_j56), (0, .ref (q 2)), (1, .int x1), (3, .int x3), (6, .long x6), (8, .int x8)]) C.1 C.2.1 dX1_facesAreEnough_89 rfl hl (by decide) rfl (fun ls hl => ?_)
              refine lv_goto (tgt := 113) C.1 C.2.1 dX1_facesAreEnough_90 (by decide) ?_
              obtain ⟨x8_113, ex8_113⟩ : ∃ y : Int32, y = (x8 + 1) := ⟨_, rfl⟩
              have hs := gv_at ex8_113 hs
              refine lv_iinc (v := x8_113) (lv' := [(8, .int x8_113), (2, .int (1 : Int32)), (4, .long y0_j56), (9, .long y0_j56), (0, .ref (q 2)), (1, .int x1), (3, .int x3), (6, .long x6)]) C.1 C.2.1 dX1_facesAreEnough_113 hl (k := 7) rfl (by rw [ex8_113]; rfl) (by decide) rfl (fun ls hl => ?_)
              refine lv_goto (tgt := 13) C.1 C.2.1 dX1_facesAreEnough_116 (by decide) ?_
              exact ih _ _ _ _ _ _ _ _ _ _ _ _ _ _ _ hs hI (lv_sub hl [4, 5, 1, 6, 2, 7, 0] rfl) kk0
            · have hs := if_f cn hs
              refine lv_lload C.1 C.2.1 dX1_facesAreEnough_74 (lv_at hl 5 rfl) ?_
              refine lv_lload C.1 C.2.1 dX1_facesAreEnough_76 (lv_at hl 0 rfl) ?_
              refine c_maxL C hl.1 ml_X1_159 (by decide) (Nat.le_of_ble_eq_true rfl) dX1_facesAreEnough_78 ?_
              refine lv_goto (tgt := 86) C.1 C.2.1 dX1_facesAreEnough_81 (by decide) ?_
              refine lv_topl (fun x4_86 ex4_86 => ?_)
              have hs := gv_at ex4_86 hs
              refine lv_lstore (lv' := [(4, .long x4_86), (9, .long y0_j56), (0, .ref (q 2)), (1, .int x1), (2, .int x2), (3, .int x3), (6, .long x6), (8, .int x8)]) C.1 C.2.1 dX1_facesAreEnough_86 hl (by decide) rfl (fun ls hl => ?_)
              refine lv_iconst (v := 1) C.1 C.2.1 dX1_facesAreEnough_88 (by decide) ?_
              refine lv_istore_n (lv' := [(2, .int (1 : Int32)), (4, .long x4_86), (9, .long y0_j56), (0, .ref (q 2)), (1, .int x1), (3, .int x3), (6, .long x6), (8, .int x8)]) C.1 C.2.1 dX1_facesAreEnough_89 rfl hl (by decide) rfl (fun ls hl => ?_)
              refine lv_goto (tgt := 113) C.1 C.2.1 dX1_facesAreEnough_90 (by decide) ?_
              obtain ⟨x8_113, ex8_113⟩ : ∃ y : Int32, y = (x8 + 1) := ⟨_, rfl⟩
              have hs := gv_at ex8_113 hs
              refine lv_iinc (v := x8_113) (lv' := [(8, .int x8_113), (2, .int (1 : Int32)), (4, .long x4_86), (9, .long y0_j56), (0, .ref (q 2)), (1, .int x1), (3, .int x3), (6, .long x6)]) C.1 C.2.1 dX1_facesAreEnough_113 hl (k := 7) rfl (by rw [ex8_113]; rfl) (by decide) rfl (fun ls hl => ?_)
              refine lv_goto (tgt := 13) C.1 C.2.1 dX1_facesAreEnough_116 (by decide) ?_
              exact ih _ _ _ _ _ _ _ _ _ _ _ _ _ _ _ hs hI (lv_sub hl [4, 5, 1, 6, 2, 7, 0] rfl) kk0
        refine lv_if_eq (tgt := 55) C.1 C.2.1 dX1_facesAreEnough_44 (by decide) (fun cn => ?_) (fun cn => ?_)
        · have hs := if_t cn hs
          refine lv_lconst (v := 0) C.1 C.2.1 dX1_facesAreEnough_55 (by decide) ?_
          exact KJ_56 _ _ _ _ _ _ _ hs hI (lv_sub hl [0, 1, 2, 3, 4, 5, 6] rfl)
        · have hs := if_f cn hs
          refine lv_aload_n C.1 C.2.1 dX1_facesAreEnough_47 rfl (lv_at hl 0 rfl) ?_
          refine lv_iload_n C.1 C.2.1 dX1_facesAreEnough_48 rfl (lv_at hl 1 rfl) ?_
          obtain ⟨r_49, hc, hs⟩ := bd_e hs
          refine C_call C hI (kX1_pullOf l D cy P0 q z tl xx _ _ _ _ _ _ hc) (rv_X1 hI) ml_X1_126 im_X1_pullOf se_X1_pullOf ini_X1 co_X1_pullOf hyX1_pullOf rfl ⟨by decide, by decide⟩ hl.1 rfl (Nat.le_of_ble_eq_true rfl) dX1_facesAreEnough_49 (fun H locs hI => ?_)
          refine lv_goto (tgt := 56) C.1 C.2.1 dX1_facesAreEnough_52 (by decide) ?_
          exact KJ_56 _ _ _ _ _ _ _ hs hI (lv_sub hl [0, 1, 2, 3, 4, 5, 6] rfl)
  obtain ⟨⟨x2_13, x3_13, x4_13, x6_13, J_L, A_L, B_L⟩, hL, hs⟩ := bd_e hs
  refine KL_13 FU _ _ _ _ _ _ _ _ _ _ _ _ _ _ _ hL hI (lv_sub hl [5, 6, 4, 3, 2, 1, 0] rfl) (fun z0 z1 z2 z3 z4 z5 z6 H locs ls eo hI hl => ?_)
  obtain ⟨rfl, rfl, rfl, rfl, rfl, rfl, rfl⟩ := pr7 eo
  refine lv_iload_n C.1 C.2.1 dX1_facesAreEnough_119 rfl (lv_at hl 1 rfl) ?_
  obtain ⟨v_140, ev_140, hs⟩ := gv_ex hs
  have KP_140 : W p l e (rmL 2) s m args below meth c H locs 0 0 (MQ below (cQ D cy P0 q tl (some (.int r)) xx I J2 A2 B2) args s 0 0 P0) (F0 m 140 ls [.int v_140]) := by
    obtain ⟨rfl, rfl, rfl, rfl⟩ := so4 hs
    exact C_zret C hI (isB_ev ev_140 (by (repeat' split) <;> decide)) dX1_facesAreEnough_140
  refine lv_if_eq (tgt := 135) C.1 C.2.1 dX1_facesAreEnough_120 (by decide) (fun cn => ?_) (fun cn => ?_)
  · have ev_140 := if_t' cn ev_140
    refine lv_iconst (v := 1) C.1 C.2.1 dX1_facesAreEnough_135 (by decide) ?_
    refine lv_goto (tgt := 140) C.1 C.2.1 dX1_facesAreEnough_136 (by decide) ?_
    subst ev_140
    exact KP_140
  · have ev_140 := if_f' cn ev_140
    refine lv_iload_n C.1 C.2.1 dX1_facesAreEnough_123 rfl (lv_at hl 0 rfl) ?_
    refine lv_if_eq (tgt := 139) C.1 C.2.1 dX1_facesAreEnough_124 (by decide) (fun cn => ?_) (fun cn => ?_)
    · have ev_140 := if_t' cn ev_140
      refine lv_iconst (v := 0) C.1 C.2.1 dX1_facesAreEnough_139 (by decide) ?_
      subst ev_140
      exact KP_140
    · have ev_140 := if_f' cn ev_140
      refine lv_lload C.1 C.2.1 dX1_facesAreEnough_127 (lv_at hl 3 rfl) ?_
      refine lv_lload C.1 C.2.1 dX1_facesAreEnough_129 (lv_at hl 2 rfl) ?_
      refine W.lcmp C.1 C.2.1 dX1_facesAreEnough_131 ?_
      refine lv_if_gt (tgt := 139) C.1 C.2.1 dX1_facesAreEnough_132 (by decide) (fun cn => ?_) (fun cn => ?_)
      · have ev_140 := if_t' cn ev_140
        refine lv_iconst (v := 0) C.1 C.2.1 dX1_facesAreEnough_139 (by decide) ?_
        subst ev_140
        exact KP_140
      · have ev_140 := if_f' cn ev_140
        refine lv_iconst (v := 1) C.1 C.2.1 dX1_facesAreEnough_135 (by decide) ?_
        refine lv_goto (tgt := 140) C.1 C.2.1 dX1_facesAreEnough_136 (by decide) ?_
        subst ev_140
        exact KP_140

def lX2_weighRows_18 : Nat → Int32 → (Nat → Int32) → (Nat → Int64) → (Nat → Nat → Int32) → (Nat → Nat → Int64) → Option ((Nat → Nat → Int64))
  | 0, _, _, _, _, _ => none
  | n + 1, x2, I, J, A, B =>
    if x2 < 0 then
    (some B)
    else
    ck (inB x2 512) <|
    (sX2_nextWish x2 I J A B).bind fun r_42 =>
    ck (inB (x2 ||| ((1 : Int32) <<< (r_42 &&& 31))) 512) <|
    ck (inB x2 512) <|
    gv (va_up B 76 (vp_updL (B 76) (ix x2) ((((A 79 (ix x2))).toInt64) + (B 76 (ix (x2 ||| ((1 : Int32) <<< (r_42 &&& 31)))))))) fun B =>
    gv (x2 + (-1)) fun x2_50 =>
    lX2_weighRows_18 n x2_50 I J A B
def sX2_weighRows (I : Nat → Int32) (J : Nat → Int64) (A : Nat → Nat → Int32) (B : Nat → Nat → Int64) : Option ((Nat → Nat → Int64)) :=
(sX2_sets  I J A B).bind fun r_1 =>
gv (r_1 - (1 : Int32)) fun x1_6 =>
ck (inB x1_6 512) <|
gv (va_up B 76 (vp_updL (B 76) (ix x1_6) (0 : Int64))) fun B =>
gv (x1_6 - (1 : Int32)) fun x2_17 =>
(lX2_weighRows_18 FU x2_17 I J A B).bind fun B =>
some B
set_option maxRecDepth 100000 in
set_option maxHeartbeats 8000000 in
theorem kX2_weighRows (l : Launch) (D : va_G) (cy : Nat → ClassId) (P0 : Nat → Prop) (q z : Nat → Nat) (tl : va_W) (xx : (Nat → Option Nat) × (Nat → Option Nat) × Nat) (I : Nat → Int32) (J : Nat → Int64) (A : Nat → Nat → Int32) (B : Nat → Nat → Int64) (B2 : Nat → Nat → Int64) (hs : sX2_weighRows I J A B = some B2) : McC l yX2_weighRows cX2_weighRows 3 none 2 [.ref (q 3)] D cy P0 q z tl xx I J A B none xx I J A B2 := by
  refine C_start rfl (Nat.le_of_ble_eq_true rfl) ?_
  intro p e s m args below meth c H locs C hI ls hl
  have hl : lv_has ls 3 [(0, .ref (q 3))] := hl
  rw [sX2_weighRows] at hs
  refine lv_aload_n C.1 C.2.1 dX2_weighRows_0 rfl (lv_at hl 0 rfl) ?_
  obtain ⟨r_1, hc, hs⟩ := bd_e hs
  refine C_call C hI (kX2_sets l D cy P0 q z tl xx _ _ _ _ _ hc) (rv_X2 hI) ml_X2_72 im_X2_sets se_X2_sets ini_X2 co_X2_sets hyX2_sets rfl ⟨by decide, by decide⟩ hl.1 rfl (Nat.le_of_ble_eq_true rfl) dX2_weighRows_1 (fun H locs hI => ?_)
  refine lv_iconst (v := 1) C.1 C.2.1 dX2_weighRows_4 (by decide) ?_
  refine lv_isub C.1 C.2.1 dX2_weighRows_5 ?_
  refine lv_topi (fun x1_6 ex1_6 => ?_)
  have hs := gv_at ex1_6 hs
  refine lv_istore_n (lv' := [(1, .int x1_6), (0, .ref (q 3))]) C.1 C.2.1 dX2_weighRows_6 rfl hl (by decide) rfl (fun ls hl => ?_)
  refine lv_aload_n C.1 C.2.1 dX2_weighRows_7 rfl (lv_at hl 1 rfl) ?_
  refine cg_X2_76 C hI dX2_weighRows_8 ?_
  refine lv_iload_n C.1 C.2.1 dX2_weighRows_11 rfl (lv_at hl 0 rfl) ?_
  refine lv_lconst (v := 0) C.1 C.2.1 dX2_weighRows_12 (by decide) ?_
  obtain ⟨hk, hs⟩ := ck_e hs
  refine cs_76 C hI hk dX2_weighRows_13 (fun H locs hI => ?_)
  have hs := gv_be hs
  refine lv_iload_n C.1 C.2.1 dX2_weighRows_14 rfl (lv_at hl 0 rfl) ?_
  refine lv_iconst (v := 1) C.1 C.2.1 dX2_weighRows_15 (by decide) ?_
  refine lv_isub C.1 C.2.1 dX2_weighRows_16 ?_
  refine lv_topi (fun x2_17 ex2_17 => ?_)
  have hs := gv_at ex2_17 hs
  refine lv_istore_n (lv' := [(2, .int x2_17), (1, .int x1_6), (0, .ref (q 3))]) C.1 C.2.1 dX2_weighRows_17 rfl hl (by decide) rfl (fun ls hl => ?_)
  have KL_18 : ∀ (n : Nat) (x2 : Int32) (I : Nat → Int32) (J : Nat → Int64) (A : Nat → Nat → Int32) (B : Nat → Nat → Int64) (o : (Nat → Nat → Int64)) (Q : State → Prop) (H : Heap) (locs : List Loc) (ls : Array Slot), lX2_weighRows_18 n x2 I J A B = some o → CI D cy s P0 s.heap H locs q z tl xx I J A B → lv_has ls 3 [(0, .ref (q 3)), (2, .int x2)] → (∀ (B_0 : Nat → Nat → Int64) (H : Heap) (locs : List Loc) (ls : Array Slot), o = B_0 → CI D cy s P0 s.heap H locs q z tl xx I J A B_0 → lv_has ls 3 [] → W p l e (rmL 2) s m args below meth c H locs 0 0 Q (F0 m 56 ls [])) → W p l e (rmL 2) s m args below meth c H locs 0 0 Q (F0 m 18 ls []) := by
    intro n; induction n with
    | zero => intro x2 I J A B o Q H locs ls hs; rw [lX2_weighRows_18] at hs; cases hs
    | succ n ih =>
      intro x2 I J A B o Q H locs ls hs hI hl kk0
      rw [lX2_weighRows_18] at hs
      refine lv_iload_n C.1 C.2.1 dX2_weighRows_18 rfl (lv_at hl 1 rfl) ?_
      refine lv_if_lt (tgt := 56) C.1 C.2.1 dX2_weighRows_19 (by decide) (fun cn => ?_) (fun cn => ?_)
      · have hs := if_t cn hs
        have eo := (Option.some.inj hs).symm
        exact kk0 _ _ _ _ eo hI (lv_sub hl [] rfl)
      · have hs := if_f cn hs
        refine lv_aload_n C.1 C.2.1 dX2_weighRows_22 rfl (lv_at hl 0 rfl) ?_
        refine cg_X2_76 C hI dX2_weighRows_23 ?_
        refine lv_iload_n C.1 C.2.1 dX2_weighRows_26 rfl (lv_at hl 1 rfl) ?_
        refine lv_aload_n C.1 C.2.1 dX2_weighRows_27 rfl (lv_at hl 0 rfl) ?_
        refine cg_X2_79 C hI dX2_weighRows_28 ?_
        refine lv_iload_n C.1 C.2.1 dX2_weighRows_31 rfl (lv_at hl 1 rfl) ?_
        obtain ⟨hk, hs⟩ := ck_e hs
        refine ca_79 C hI hk dX2_weighRows_32 ?_
        refine lv_i2l C.1 C.2.1 dX2_weighRows_33 rfl ?_
        refine lv_aload_n C.1 C.2.1 dX2_weighRows_34 rfl (lv_at hl 0 rfl) ?_
        refine cg_X2_76 C hI dX2_weighRows_35 ?_
        refine lv_iload_n C.1 C.2.1 dX2_weighRows_38 rfl (lv_at hl 1 rfl) ?_
        refine lv_iconst (v := 1) C.1 C.2.1 dX2_weighRows_39 (by decide) ?_
        refine lv_aload_n C.1 C.2.1 dX2_weighRows_40 rfl (lv_at hl 0 rfl) ?_
        refine lv_iload_n C.1 C.2.1 dX2_weighRows_41 rfl (lv_at hl 1 rfl) ?_
        obtain ⟨r_42, hc, hs⟩ := bd_e hs
        refine C_call C hI (kX2_nextWish l D cy P0 q z tl xx _ _ _ _ _ _ hc) (rv_X2 hI) ml_X2_104 im_X2_nextWish se_X2_nextWish ini_X2 co_X2_nextWish hyX2_nextWish rfl ⟨by decide, by decide⟩ hl.1 rfl (Nat.le_of_ble_eq_true rfl) dX2_weighRows_42 (fun H locs hI => ?_)
        refine lv_ishl C.1 C.2.1 dX2_weighRows_45 ?_
        refine lv_ior C.1 C.2.1 dX2_weighRows_46 ?_
        obtain ⟨hk, hs⟩ := ck_e hs
        refine ca_76 C hI hk dX2_weighRows_47 ?_
        refine lv_ladd C.1 C.2.1 dX2_weighRows_48 ?_
        obtain ⟨hk, hs⟩ := ck_e hs
        refine cs_76 C hI hk dX2_weighRows_49 (fun H locs hI => ?_)
        have hs := gv_be hs
        obtain ⟨x2_50, ex2_50⟩ : ∃ y : Int32, y = (x2 + (-1)) := ⟨_, rfl⟩
        have hs := gv_at ex2_50 hs
        refine lv_iinc (v := x2_50) (lv' := [(2, .int x2_50), (0, .ref (q 3))]) C.1 C.2.1 dX2_weighRows_50 hl (k := 1) rfl (by rw [ex2_50]; rfl) (by decide) rfl (fun ls hl => ?_)
        refine lv_goto (tgt := 18) C.1 C.2.1 dX2_weighRows_53 (by decide) ?_
        exact ih _ _ _ _ _ _ _ _ _ _ hs hI (lv_sub hl [1, 0] rfl) kk0
  obtain ⟨B_L, hL, hs⟩ := bd_e hs
  refine KL_18 FU _ _ _ _ _ _ _ _ _ _ hL hI (lv_sub hl [2, 0] rfl) (fun z0 H locs ls eo hI hl => ?_)
  subst eo
  obtain rfl := Option.some.inj hs
  exact C_vret C hI dX2_weighRows_56

def lX2_keepRow_12 : Nat → Int32 → Int32 → (Nat → Int32) → (Nat → Int64) → (Nat → Nat → Int32) → (Nat → Nat → Int64) → Option ((Nat → Nat → Int32))
  | 0, _, _, _, _, _, _ => none
  | n + 1, x1, x2, I, J, A, B =>
    if (I 75) ≤ x2 then
    (some A)
    else
    (sX2_nextWish x1 I J A B).bind fun r_27 =>
    ck (inB x2 9) <|
    gv (va_up A 74 (upd (A 74) (ix x2) r_27)) fun A =>
    ck (inB x2 9) <|
    gv (x1 ||| ((1 : Int32) <<< ((A 74 (ix x2)) &&& 31))) fun x1_41 =>
    gv (x2 + 1) fun x2_42 =>
    lX2_keepRow_12 n x1_41 x2_42 I J A B
def sX2_keepRow (I : Nat → Int32) (J : Nat → Int64) (A : Nat → Nat → Int32) (B : Nat → Nat → Int64) : Option ((Nat → Int32) × (Nat → Nat → Int32)) :=
gv (upd I 75 (I 73)) fun I =>
(lX2_keepRow_12 FU (0 : Int32) (0 : Int32) I J A B).bind fun A =>
some (I, A)
set_option maxRecDepth 100000 in
set_option maxHeartbeats 8000000 in
theorem kX2_keepRow (l : Launch) (D : va_G) (cy : Nat → ClassId) (P0 : Nat → Prop) (q z : Nat → Nat) (tl : va_W) (xx : (Nat → Option Nat) × (Nat → Option Nat) × Nat) (I : Nat → Int32) (J : Nat → Int64) (A : Nat → Nat → Int32) (B : Nat → Nat → Int64) (I2 : Nat → Int32) (A2 : Nat → Nat → Int32) (hs : sX2_keepRow I J A B = some (I2, A2)) : McC l yX2_keepRow cX2_keepRow 3 none 2 [.ref (q 3)] D cy P0 q z tl xx I J A B none xx I2 J A2 B := by
  refine C_start rfl (Nat.le_of_ble_eq_true rfl) ?_
  intro p e s m args below meth c H locs C hI ls hl
  have hl : lv_has ls 3 [(0, .ref (q 3))] := hl
  rw [sX2_keepRow] at hs
  refine lv_iconst (v := 0) C.1 C.2.1 dX2_keepRow_0 (by decide) ?_
  refine lv_istore_n (lv' := [(1, .int (0 : Int32)), (0, .ref (q 3))]) C.1 C.2.1 dX2_keepRow_1 rfl hl (by decide) rfl (fun ls hl => ?_)
  refine lv_aload_n C.1 C.2.1 dX2_keepRow_2 rfl (lv_at hl 1 rfl) ?_
  refine lv_aload_n C.1 C.2.1 dX2_keepRow_3 rfl (lv_at hl 1 rfl) ?_
  refine cg_X2_73 C hI dX2_keepRow_4 ?_
  refine cp_X2_75 C hI dX2_keepRow_7 (fun H locs hI => ?_)
  have hs := gv_be hs
  refine lv_iconst (v := 0) C.1 C.2.1 dX2_keepRow_10 (by decide) ?_
  refine lv_istore_n (lv' := [(2, .int (0 : Int32)), (1, .int (0 : Int32)), (0, .ref (q 3))]) C.1 C.2.1 dX2_keepRow_11 rfl hl (by decide) rfl (fun ls hl => ?_)
  have KL_12 : ∀ (n : Nat) (x1 : Int32) (x2 : Int32) (I : Nat → Int32) (J : Nat → Int64) (A : Nat → Nat → Int32) (B : Nat → Nat → Int64) (o : (Nat → Nat → Int32)) (Q : State → Prop) (H : Heap) (locs : List Loc) (ls : Array Slot), lX2_keepRow_12 n x1 x2 I J A B = some o → CI D cy s P0 s.heap H locs q z tl xx I J A B → lv_has ls 3 [(0, .ref (q 3)), (1, .int x1), (2, .int x2)] → (∀ (A_0 : Nat → Nat → Int32) (H : Heap) (locs : List Loc) (ls : Array Slot), o = A_0 → CI D cy s P0 s.heap H locs q z tl xx I J A_0 B → lv_has ls 3 [] → W p l e (rmL 2) s m args below meth c H locs 0 0 Q (F0 m 48 ls [])) → W p l e (rmL 2) s m args below meth c H locs 0 0 Q (F0 m 12 ls []) := by
    intro n; induction n with
    | zero => intro x1 x2 I J A B o Q H locs ls hs; rw [lX2_keepRow_12] at hs; cases hs
    | succ n ih =>
      intro x1 x2 I J A B o Q H locs ls hs hI hl kk0
      rw [lX2_keepRow_12] at hs
      refine lv_iload_n C.1 C.2.1 dX2_keepRow_12 rfl (lv_at hl 2 rfl) ?_
      refine lv_aload_n C.1 C.2.1 dX2_keepRow_13 rfl (lv_at hl 0 rfl) ?_
      refine cg_X2_75 C hI dX2_keepRow_14 ?_
      refine lv_icmp_ge (tgt := 48) C.1 C.2.1 dX2_keepRow_17 (by decide) (fun cn => ?_) (fun cn => ?_)
      · have hs := if_t cn hs
        have eo := (Option.some.inj hs).symm
        exact kk0 _ _ _ _ eo hI (lv_sub hl [] rfl)
      · have hs := if_f cn hs
        refine lv_aload_n C.1 C.2.1 dX2_keepRow_20 rfl (lv_at hl 0 rfl) ?_
        refine cg_X2_74 C hI dX2_keepRow_21 ?_
        refine lv_iload_n C.1 C.2.1 dX2_keepRow_24 rfl (lv_at hl 2 rfl) ?_
        refine lv_aload_n C.1 C.2.1 dX2_keepRow_25 rfl (lv_at hl 0 rfl) ?_
        refine lv_iload_n C.1 C.2.1 dX2_keepRow_26 rfl (lv_at hl 1 rfl) ?_
        obtain ⟨r_27, hc, hs⟩ := bd_e hs
        refine C_call C hI (kX2_nextWish l D cy P0 q z tl xx _ _ _ _ _ _ hc) (rv_X2 hI) ml_X2_104 im_X2_nextWish se_X2_nextWish ini_X2 co_X2_nextWish hyX2_nextWish rfl ⟨by decide, by decide⟩ hl.1 rfl (Nat.le_of_ble_eq_true rfl) dX2_keepRow_27 (fun H locs hI => ?_)
        obtain ⟨hk, hs⟩ := ck_e hs
        refine cs_74 C hI hk dX2_keepRow_30 (fun H locs hI => ?_)
        have hs := gv_be hs
        refine lv_iload_n C.1 C.2.1 dX2_keepRow_31 rfl (lv_at hl 1 rfl) ?_
        refine lv_iconst (v := 1) C.1 C.2.1 dX2_keepRow_32 (by decide) ?_
        refine lv_aload_n C.1 C.2.1 dX2_keepRow_33 rfl (lv_at hl 0 rfl) ?_
        refine cg_X2_74 C hI dX2_keepRow_34 ?_
        refine lv_iload_n C.1 C.2.1 dX2_keepRow_37 rfl (lv_at hl 2 rfl) ?_
        obtain ⟨hk, hs⟩ := ck_e hs
        refine ca_74 C hI hk dX2_keepRow_38 ?_
        refine lv_ishl C.1 C.2.1 dX2_keepRow_39 ?_
        refine lv_ior C.1 C.2.1 dX2_keepRow_40 ?_
        refine lv_topi (fun x1_41 ex1_41 => ?_)
        have hs := gv_at ex1_41 hs
        refine lv_istore_n (lv' := [(1, .int x1_41), (0, .ref (q 3)), (2, .int x2)]) C.1 C.2.1 dX2_keepRow_41 rfl hl (by decide) rfl (fun ls hl => ?_)
        obtain ⟨x2_42, ex2_42⟩ : ∃ y : Int32, y = (x2 + 1) := ⟨_, rfl⟩
        have hs := gv_at ex2_42 hs
        refine lv_iinc (v := x2_42) (lv' := [(2, .int x2_42), (1, .int x1_41), (0, .ref (q 3))]) C.1 C.2.1 dX2_keepRow_42 hl (k := 2) rfl (by rw [ex2_42]; rfl) (by decide) rfl (fun ls hl => ?_)
        refine lv_goto (tgt := 12) C.1 C.2.1 dX2_keepRow_45 (by decide) ?_
        exact ih _ _ _ _ _ _ _ _ _ _ _ hs hI (lv_sub hl [2, 1, 0] rfl) kk0
  obtain ⟨A_L, hL, hs⟩ := bd_e hs
  refine KL_12 FU _ _ _ _ _ _ _ _ _ _ _ hL hI (lv_sub hl [2, 1, 0] rfl) (fun z0 H locs ls eo hI hl => ?_)
  subst eo
  obtain ⟨rfl, rfl⟩ := so2 hs
  exact C_vret C hI dX2_keepRow_48

def lX2_leastSum_18 : Nat → Int64 → Int32 → Int32 → Int32 → (Nat → Int32) → (Nat → Int64) → (Nat → Nat → Int32) → (Nat → Nat → Int64) → Option (Int32)
  | 0, _, _, _, _, _, _, _, _ => none
  | n + 1, x1, x3, x4, x5, I, J, A, B =>
    (sX2_sets  I J A B).bind fun r_21 =>
    if r_21 ≤ x5 then
    (some x4)
    else
    (sJ6_bitCount_0f7a4 x5).bind fun r_29 =>
    if r_29 = x3 then
    (if x4 = (-1 : Int32) then
    (ck (inB x5 512) <|
    gv (A 79 (ix x5)) fun x4_61 =>
    gv (x5 + 1) fun x5_63 =>
    lX2_leastSum_18 n x1 x3 x4_61 x5_63 I J A B)
    else
    ck (inB x5 512) <|
    if x4 ≤ (A 79 (ix x5)) then
    (gv (x5 + 1) fun x5_63 =>
    lX2_leastSum_18 n x1 x3 x4 x5_63 I J A B)
    else
    ck (inB x5 512) <|
    gv (A 79 (ix x5)) fun x4_61 =>
    gv (x5 + 1) fun x5_63 =>
    lX2_leastSum_18 n x1 x3 x4_61 x5_63 I J A B)
    else
    gv (x5 + 1) fun x5_63 =>
    lX2_leastSum_18 n x1 x3 x4 x5_63 I J A B
def lX2_leastSum_4 : Nat → Int64 → Int32 → (Nat → Int32) → (Nat → Int64) → (Nat → Nat → Int32) → (Nat → Nat → Int64) → Option (Int64)
  | 0, _, _, _, _, _, _ => none
  | n + 1, x1, x3, I, J, A, B =>
    if (I 73) ≤ x3 then
    (some x1)
    else
    (lX2_leastSum_18 FU x1 x3 (-1 : Int32) (0 : Int32) I J A B).bind fun x4_18 =>
    gv (x1 + (x4_18.toInt64)) fun x1_74 =>
    gv (x3 + 1) fun x3_75 =>
    lX2_leastSum_4 n x1_74 x3_75 I J A B
def sX2_leastSum (I : Nat → Int32) (J : Nat → Int64) (A : Nat → Nat → Int32) (B : Nat → Nat → Int64) : Option ((Int64)) :=
(lX2_leastSum_4 FU (0 : Int64) (0 : Int32) I J A B).bind fun x1_4 =>
some x1_4
set_option maxRecDepth 100000 in
set_option maxHeartbeats 8000000 in
theorem kX2_leastSum (l : Launch) (D : va_G) (cy : Nat → ClassId) (P0 : Nat → Prop) (q z : Nat → Nat) (tl : va_W) (xx : (Nat → Option Nat) × (Nat → Option Nat) × Nat) (I : Nat → Int32) (J : Nat → Int64) (A : Nat → Nat → Int32) (B : Nat → Nat → Int64) (r : Int64) (hs : sX2_leastSum I J A B = some r) : McC l yX2_leastSum cX2_leastSum 6 (some .long) 2 [.ref (q 3)] D cy P0 q z tl xx I J A B (some (.long r)) xx I J A B := by
  refine C_start rfl (Nat.le_of_ble_eq_true rfl) ?_
  intro p e s m args below meth c H locs C hI ls hl
  have hl : lv_has ls 6 [(0, .ref (q 3))] := hl
  rw [sX2_leastSum] at hs
  refine lv_lconst (v := 0) C.1 C.2.1 dX2_leastSum_0 (by decide) ?_
  refine lv_lstore_n (lv' := [(1, .long (0 : Int64)), (0, .ref (q 3))]) C.1 C.2.1 dX2_leastSum_1 rfl hl (by decide) rfl (fun ls hl => ?_)
  refine lv_iconst (v := 0) C.1 C.2.1 dX2_leastSum_2 (by decide) ?_
  refine lv_istore_n (lv' := [(3, .int (0 : Int32)), (1, .long (0 : Int64)), (0, .ref (q 3))]) C.1 C.2.1 dX2_leastSum_3 rfl hl (by decide) rfl (fun ls hl => ?_)
  have KL_4 : ∀ (n : Nat) (x1 : Int64) (x3 : Int32) (I : Nat → Int32) (J : Nat → Int64) (A : Nat → Nat → Int32) (B : Nat → Nat → Int64) (o : Int64) (Q : State → Prop) (H : Heap) (locs : List Loc) (ls : Array Slot), lX2_leastSum_4 n x1 x3 I J A B = some o → CI D cy s P0 s.heap H locs q z tl xx I J A B → lv_has ls 6 [(0, .ref (q 3)), (1, .long x1), (3, .int x3)] → (∀ (o1_0 : Int64) (H : Heap) (locs : List Loc) (ls : Array Slot), o = o1_0 → CI D cy s P0 s.heap H locs q z tl xx I J A B → lv_has ls 6 [(1, .long o1_0)] → W p l e (rmL 2) s m args below meth c H locs 0 0 Q (F0 m 81 ls [])) → W p l e (rmL 2) s m args below meth c H locs 0 0 Q (F0 m 4 ls []) := by
    intro n; induction n with
    | zero => intro x1 x3 I J A B o Q H locs ls hs; rw [lX2_leastSum_4] at hs; cases hs
    | succ n ih =>
      intro x1 x3 I J A B o Q H locs ls hs hI hl kk0
      rw [lX2_leastSum_4] at hs
      refine lv_iload_n C.1 C.2.1 dX2_leastSum_4 rfl (lv_at hl 2 rfl) ?_
      refine lv_aload_n C.1 C.2.1 dX2_leastSum_5 rfl (lv_at hl 0 rfl) ?_
      refine cg_X2_73 C hI dX2_leastSum_6 ?_
      refine lv_icmp_ge (tgt := 81) C.1 C.2.1 dX2_leastSum_9 (by decide) (fun cn => ?_) (fun cn => ?_)
      · have hs := if_t cn hs
        have eo := (Option.some.inj hs).symm
        exact kk0 _ _ _ _ eo hI (lv_sub hl [1] rfl)
      · have hs := if_f cn hs
        refine lv_iconst (v := -1) C.1 C.2.1 dX2_leastSum_12 (by decide) ?_
        refine lv_istore (lv' := [(4, .int (-1 : Int32)), (0, .ref (q 3)), (1, .long x1), (3, .int x3)]) C.1 C.2.1 dX2_leastSum_13 hl (by decide) rfl (fun ls hl => ?_)
        refine lv_iconst (v := 0) C.1 C.2.1 dX2_leastSum_15 (by decide) ?_
        refine lv_istore (lv' := [(5, .int (0 : Int32)), (4, .int (-1 : Int32)), (0, .ref (q 3)), (1, .long x1), (3, .int x3)]) C.1 C.2.1 dX2_leastSum_16 hl (by decide) rfl (fun ls hl => ?_)
        have KL_18 : ∀ (n : Nat) (x1 : Int64) (x3 : Int32) (x4 : Int32) (x5 : Int32) (I : Nat → Int32) (J : Nat → Int64) (A : Nat → Nat → Int32) (B : Nat → Nat → Int64) (o : Int32) (Q : State → Prop) (H : Heap) (locs : List Loc) (ls : Array Slot), lX2_leastSum_18 n x1 x3 x4 x5 I J A B = some o → CI D cy s P0 s.heap H locs q z tl xx I J A B → lv_has ls 6 [(0, .ref (q 3)), (1, .long x1), (3, .int x3), (4, .int x4), (5, .int x5)] → (∀ (o4_0 : Int32) (H : Heap) (locs : List Loc) (ls : Array Slot), o = o4_0 → CI D cy s P0 s.heap H locs q z tl xx I J A B → lv_has ls 6 [(0, .ref (q 3)), (1, .long x1), (3, .int x3), (4, .int o4_0)] → W p l e (rmL 2) s m args below meth c H locs 0 0 Q (F0 m 69 ls [])) → W p l e (rmL 2) s m args below meth c H locs 0 0 Q (F0 m 18 ls []) := by
          intro n; induction n with
          | zero => intro x1 x3 x4 x5 I J A B o Q H locs ls hs; rw [lX2_leastSum_18] at hs; cases hs
          | succ n ih =>
            intro x1 x3 x4 x5 I J A B o Q H locs ls hs hI hl kk0
            rw [lX2_leastSum_18] at hs
            refine lv_iload C.1 C.2.1 dX2_leastSum_18 (lv_at hl 4 rfl) ?_
            refine lv_aload_n C.1 C.2.1 dX2_leastSum_20 rfl (lv_at hl 0 rfl) ?_
            obtain ⟨r_21, hc, hs⟩ := bd_e hs
            refine C_call C hI (kX2_sets l D cy P0 q z tl xx _ _ _ _ _ hc) (rv_X2 hI) ml_X2_72 im_X2_sets se_X2_sets ini_X2 co_X2_sets hyX2_sets rfl ⟨by decide, by decide⟩ hl.1 rfl (Nat.le_of_ble_eq_true rfl) dX2_leastSum_21 (fun H locs hI => ?_)
            refine lv_icmp_ge (tgt := 69) C.1 C.2.1 dX2_leastSum_24 (by decide) (fun cn => ?_) (fun cn => ?_)
            · have hs := if_t cn hs
              have eo := (Option.some.inj hs).symm
              exact kk0 _ _ _ _ eo hI (lv_sub hl [0, 1, 2, 3] rfl)
            · have hs := if_f cn hs
              refine lv_iload C.1 C.2.1 dX2_leastSum_27 (lv_at hl 4 rfl) ?_
              obtain ⟨r_29, hc, hs⟩ := bd_e hs
              refine S_call (h := 2) C (kJ6_bitCount_0f7a4 l _ _ hc) ml_X2_110 st_J6_bitCount_0f7a4 ini_J6 co_J6_bitCount_0f7a4 hyJ6_bitCount_0f7a4 rfl ⟨by decide, by decide⟩ hl.1 rfl (Nat.le_of_ble_eq_true rfl) dX2_leastSum_29 ⟨Nat.le_refl 0, Nat.le_refl 0, Nat.le_refl _, Nat.le_refl _⟩ ?_
              refine lv_iload_n C.1 C.2.1 dX2_leastSum_32 rfl (lv_at hl 2 rfl) ?_
              refine lv_icmp_ne (tgt := 63) C.1 C.2.1 dX2_leastSum_33 (by decide) (fun cn => ?_) (fun cn => ?_)
              · have hs := if_f cn hs
                obtain ⟨x5_63, ex5_63⟩ : ∃ y : Int32, y = (x5 + 1) := ⟨_, rfl⟩
                have hs := gv_at ex5_63 hs
                refine lv_iinc (v := x5_63) (lv' := [(5, .int x5_63), (0, .ref (q 3)), (1, .long x1), (3, .int x3), (4, .int x4)]) C.1 C.2.1 dX2_leastSum_63 hl (k := 4) rfl (by rw [ex5_63]; rfl) (by decide) rfl (fun ls hl => ?_)
                refine lv_goto (tgt := 18) C.1 C.2.1 dX2_leastSum_66 (by decide) ?_
                exact ih _ _ _ _ _ _ _ _ _ _ _ _ _ hs hI (lv_sub hl [1, 2, 3, 4, 0] rfl) kk0
              · have hs := if_t cn hs
                refine lv_iload C.1 C.2.1 dX2_leastSum_36 (lv_at hl 3 rfl) ?_
                refine lv_iconst (v := -1) C.1 C.2.1 dX2_leastSum_38 (by decide) ?_
                refine lv_icmp_eq (tgt := 54) C.1 C.2.1 dX2_leastSum_39 (by decide) (fun cn => ?_) (fun cn => ?_)
                · have hs := if_t cn hs
                  refine lv_aload_n C.1 C.2.1 dX2_leastSum_54 rfl (lv_at hl 0 rfl) ?_
                  refine cg_X2_79 C hI dX2_leastSum_55 ?_
                  refine lv_iload C.1 C.2.1 dX2_leastSum_58 (lv_at hl 4 rfl) ?_
                  obtain ⟨hk, hs⟩ := ck_e hs
                  refine ca_79 C hI hk dX2_leastSum_60 ?_
                  refine lv_topi (fun x4_61 ex4_61 => ?_)
                  have hs := gv_at ex4_61 hs
                  refine lv_istore (lv' := [(4, .int x4_61), (0, .ref (q 3)), (1, .long x1), (3, .int x3), (5, .int x5)]) C.1 C.2.1 dX2_leastSum_61 hl (by decide) rfl (fun ls hl => ?_)
                  obtain ⟨x5_63, ex5_63⟩ : ∃ y : Int32, y = (x5 + 1) := ⟨_, rfl⟩
                  have hs := gv_at ex5_63 hs
                  refine lv_iinc (v := x5_63) (lv' := [(5, .int x5_63), (4, .int x4_61), (0, .ref (q 3)), (1, .long x1), (3, .int x3)]) C.1 C.2.1 dX2_leastSum_63 hl (k := 4) rfl (by rw [ex5_63]; rfl) (by decide) rfl (fun ls hl => ?_)
                  refine lv_goto (tgt := 18) C.1 C.2.1 dX2_leastSum_66 (by decide) ?_
                  exact ih _ _ _ _ _ _ _ _ _ _ _ _ _ hs hI (lv_sub hl [2, 3, 4, 1, 0] rfl) kk0
                · have hs := if_f cn hs
                  refine lv_aload_n C.1 C.2.1 dX2_leastSum_42 rfl (lv_at hl 0 rfl) ?_
                  refine cg_X2_79 C hI dX2_leastSum_43 ?_
                  refine lv_iload C.1 C.2.1 dX2_leastSum_46 (lv_at hl 4 rfl) ?_
                  obtain ⟨hk, hs⟩ := ck_e hs
                  refine ca_79 C hI hk dX2_leastSum_48 ?_
                  refine lv_iload C.1 C.2.1 dX2_leastSum_49 (lv_at hl 3 rfl) ?_
                  refine lv_icmp_ge (tgt := 63) C.1 C.2.1 dX2_leastSum_51 (by decide) (fun cn => ?_) (fun cn => ?_)
                  · have hs := if_t cn hs
                    obtain ⟨x5_63, ex5_63⟩ : ∃ y : Int32, y = (x5 + 1) := ⟨_, rfl⟩
                    have hs := gv_at ex5_63 hs
                    refine lv_iinc (v := x5_63) (lv' := [(5, .int x5_63), (0, .ref (q 3)), (1, .long x1), (3, .int x3), (4, .int x4)]) C.1 C.2.1 dX2_leastSum_63 hl (k := 4) rfl (by rw [ex5_63]; rfl) (by decide) rfl (fun ls hl => ?_)
                    refine lv_goto (tgt := 18) C.1 C.2.1 dX2_leastSum_66 (by decide) ?_
                    exact ih _ _ _ _ _ _ _ _ _ _ _ _ _ hs hI (lv_sub hl [1, 2, 3, 4, 0] rfl) kk0
                  · have hs := if_f cn hs
                    refine lv_aload_n C.1 C.2.1 dX2_leastSum_54 rfl (lv_at hl 0 rfl) ?_
                    refine cg_X2_79 C hI dX2_leastSum_55 ?_
                    refine lv_iload C.1 C.2.1 dX2_leastSum_58 (lv_at hl 4 rfl) ?_
                    obtain ⟨hk, hs⟩ := ck_e hs
                    refine ca_79 C hI hk dX2_leastSum_60 ?_
                    refine lv_topi (fun x4_61 ex4_61 => ?_)
                    have hs := gv_at ex4_61 hs
                    refine lv_istore (lv' := [(4, .int x4_61), (0, .ref (q 3)), (1, .long x1), (3, .int x3), (5, .int x5)]) C.1 C.2.1 dX2_leastSum_61 hl (by decide) rfl (fun ls hl => ?_)
                    obtain ⟨x5_63, ex5_63⟩ : ∃ y : Int32, y = (x5 + 1) := ⟨_, rfl⟩
                    have hs := gv_at ex5_63 hs
                    refine lv_iinc (v := x5_63) (lv' := [(5, .int x5_63), (4, .int x4_61), (0, .ref (q 3)), (1, .long x1), (3, .int x3)]) C.1 C.2.1 dX2_leastSum_63 hl (k := 4) rfl (by rw [ex5_63]; rfl) (by decide) rfl (fun ls hl => ?_)
                    refine lv_goto (tgt := 18) C.1 C.2.1 dX2_leastSum_66 (by decide) ?_
                    exact ih _ _ _ _ _ _ _ _ _ _ _ _ _ hs hI (lv_sub hl [2, 3, 4, 1, 0] rfl) kk0
        obtain ⟨x4_18, hL, hs⟩ := bd_e hs
        refine KL_18 FU _ _ _ _ _ _ _ _ _ _ _ _ _ hL hI (lv_sub hl [2, 3, 4, 1, 0] rfl) (fun z0 H locs ls eo hI hl => ?_)
        subst eo
        refine lv_lload_n C.1 C.2.1 dX2_leastSum_69 rfl (lv_at hl 1 rfl) ?_
        refine lv_iload C.1 C.2.1 dX2_leastSum_70 (lv_at hl 3 rfl) ?_
        refine lv_i2l C.1 C.2.1 dX2_leastSum_72 rfl ?_
        refine lv_ladd C.1 C.2.1 dX2_leastSum_73 ?_
        refine lv_topl (fun x1_74 ex1_74 => ?_)
        have hs := gv_at ex1_74 hs
        refine lv_lstore_n (lv' := [(1, .long x1_74), (0, .ref (q 3)), (3, .int x3), (4, .int x4_18)]) C.1 C.2.1 dX2_leastSum_74 rfl hl (by decide) rfl (fun ls hl => ?_)
        obtain ⟨x3_75, ex3_75⟩ : ∃ y : Int32, y = (x3 + 1) := ⟨_, rfl⟩
        have hs := gv_at ex3_75 hs
        refine lv_iinc (v := x3_75) (lv' := [(3, .int x3_75), (1, .long x1_74), (0, .ref (q 3)), (4, .int x4_18)]) C.1 C.2.1 dX2_leastSum_75 hl (k := 2) rfl (by rw [ex3_75]; rfl) (by decide) rfl (fun ls hl => ?_)
        refine lv_goto (tgt := 4) C.1 C.2.1 dX2_leastSum_78 (by decide) ?_
        exact ih _ _ _ _ _ _ _ _ _ _ _ hs hI (lv_sub hl [2, 1, 0] rfl) kk0
  obtain ⟨x1_4, hL, hs⟩ := bd_e hs
  refine KL_4 FU _ _ _ _ _ _ _ _ _ _ _ hL hI (lv_sub hl [2, 1, 0] rfl) (fun z0 H locs ls eo hI hl => ?_)
  subst eo
  refine lv_lload_n C.1 C.2.1 dX2_leastSum_81 rfl (lv_at hl 0 rfl) ?_
  obtain rfl := Option.some.inj hs
  exact C_lret C hI dX2_leastSum_82

def lX4_costAt_4 : Nat → Int32 → Int32 → Int32 → (Nat → Int32) → (Nat → Int64) → (Nat → Nat → Int32) → (Nat → Nat → Int64) → Option (Int32)
  | 0, _, _, _, _, _, _, _ => none
  | n + 1, x1, x2, x3, I, J, A, B =>
    if (I 41) ≤ x3 then
    (some x2)
    else
    (sX4_hoursLeft x3 x1 I J A B).bind fun r_18 =>
    gv (fun (x2_j38 : Int32) =>
    (sX5_cell 3 x3 (0 : Int32) I J A B).bind fun r_44 =>
    if r_44 = (1 : Int32) then
    (if (A 15 (ix (8 : Int32))) ≤ r_18 then
    (gv (x3 + 1) fun x3_73 =>
    lX4_costAt_4 n x1 x2_j38 x3_73 I J A B)
    else
    gv (x2_j38 + (A 15 (ix (7 : Int32)))) fun x2_72 =>
    gv (x3 + 1) fun x3_73 =>
    lX4_costAt_4 n x1 x2_72 x3_73 I J A B)
    else
    gv (x3 + 1) fun x3_73 =>
    lX4_costAt_4 n x1 x2_j38 x3_73 I J A B) fun k_38 =>
    if r_18 ≤ 0 then
    (k_38 x2)
    else
    gv (x2 + (A 15 (ix (6 : Int32)))) fun x2_37 =>
    k_38 x2_37
def sX4_costAt (x1 : Int32) (I : Nat → Int32) (J : Nat → Int64) (A : Nat → Nat → Int32) (B : Nat → Nat → Int64) : Option ((Int32)) :=
(lX4_costAt_4 FU x1 (0 : Int32) (0 : Int32) I J A B).bind fun x2_4 =>
some x2_4
set_option maxRecDepth 100000 in
set_option maxHeartbeats 8000000 in
theorem kX4_costAt (l : Launch) (D : va_G) (cy : Nat → ClassId) (P0 : Nat → Prop) (q z : Nat → Nat) (tl : va_W) (xx : (Nat → Option Nat) × (Nat → Option Nat) × Nat) (x1 : Int32) (I : Nat → Int32) (J : Nat → Int64) (A : Nat → Nat → Int32) (B : Nat → Nat → Int64) (r : Int32) (hs : sX4_costAt x1 I J A B = some r) : McC l yX4_costAt cX4_costAt 5 (some .int) 2 [.ref (q 0), .int x1] D cy P0 q z tl xx I J A B (some (.int r)) xx I J A B := by
  refine C_start rfl (Nat.le_of_ble_eq_true rfl) ?_
  intro p e s m args below meth c H locs C hI ls hl
  have hl : lv_has ls 5 [(0, .ref (q 0)), (1, .int x1)] := hl
  rw [sX4_costAt] at hs
  refine lv_iconst (v := 0) C.1 C.2.1 dX4_costAt_0 (by decide) ?_
  refine lv_istore_n (lv' := [(2, .int (0 : Int32)), (0, .ref (q 0)), (1, .int x1)]) C.1 C.2.1 dX4_costAt_1 rfl hl (by decide) rfl (fun ls hl => ?_)
  refine lv_iconst (v := 0) C.1 C.2.1 dX4_costAt_2 (by decide) ?_
  refine lv_istore_n (lv' := [(3, .int (0 : Int32)), (2, .int (0 : Int32)), (0, .ref (q 0)), (1, .int x1)]) C.1 C.2.1 dX4_costAt_3 rfl hl (by decide) rfl (fun ls hl => ?_)
  have KL_4 : ∀ (n : Nat) (x1 : Int32) (x2 : Int32) (x3 : Int32) (I : Nat → Int32) (J : Nat → Int64) (A : Nat → Nat → Int32) (B : Nat → Nat → Int64) (o : Int32) (Q : State → Prop) (H : Heap) (locs : List Loc) (ls : Array Slot), lX4_costAt_4 n x1 x2 x3 I J A B = some o → CI D cy s P0 s.heap H locs q z tl xx I J A B → lv_has ls 5 [(0, .ref (q 0)), (1, .int x1), (2, .int x2), (3, .int x3)] → (∀ (o2_0 : Int32) (H : Heap) (locs : List Loc) (ls : Array Slot), o = o2_0 → CI D cy s P0 s.heap H locs q z tl xx I J A B → lv_has ls 5 [(2, .int o2_0)] → W p l e (rmL 2) s m args below meth c H locs 0 0 Q (F0 m 79 ls [])) → W p l e (rmL 2) s m args below meth c H locs 0 0 Q (F0 m 4 ls []) := by
    intro n; induction n with
    | zero => intro x1 x2 x3 I J A B o Q H locs ls hs; rw [lX4_costAt_4] at hs; cases hs
    | succ n ih =>
      intro x1 x2 x3 I J A B o Q H locs ls hs hI hl kk0
      rw [lX4_costAt_4] at hs
      refine lv_iload_n C.1 C.2.1 dX4_costAt_4 rfl (lv_at hl 3 rfl) ?_
      refine lv_aload_n C.1 C.2.1 dX4_costAt_5 rfl (lv_at hl 0 rfl) ?_
      refine cg_X4_20 C hI dX4_costAt_6 ?_
      refine cg_X4_41 C hI dX4_costAt_9 ?_
      refine lv_icmp_ge (tgt := 79) C.1 C.2.1 dX4_costAt_12 (by decide) (fun cn => ?_) (fun cn => ?_)
      · have hs := if_t cn hs
        have eo := (Option.some.inj hs).symm
        exact kk0 _ _ _ _ eo hI (lv_sub hl [2] rfl)
      · have hs := if_f cn hs
        refine lv_aload_n C.1 C.2.1 dX4_costAt_15 rfl (lv_at hl 0 rfl) ?_
        refine lv_iload_n C.1 C.2.1 dX4_costAt_16 rfl (lv_at hl 3 rfl) ?_
        refine lv_iload_n C.1 C.2.1 dX4_costAt_17 rfl (lv_at hl 1 rfl) ?_
        obtain ⟨r_18, hc, hs⟩ := bd_e hs
        refine C_call C hI (kX4_hoursLeft l D cy P0 q z tl xx _ _ _ _ _ _ _ hc) (rv_X4 hI) ml_X4_96 im_X4_hoursLeft se_X4_hoursLeft ini_X4 co_X4_hoursLeft hyX4_hoursLeft rfl ⟨by decide, by decide⟩ hl.1 rfl (Nat.le_of_ble_eq_true rfl) dX4_costAt_18 (fun H locs hI => ?_)
        refine lv_istore (lv' := [(4, .int r_18), (0, .ref (q 0)), (1, .int x1), (2, .int x2), (3, .int x3)]) C.1 C.2.1 dX4_costAt_21 hl (by decide) rfl (fun ls hl => ?_)
        refine lv_iload C.1 C.2.1 dX4_costAt_23 (lv_at hl 0 rfl) ?_
        obtain ⟨k_38, ek_38, hs⟩ := gv_ex hs
        have KJ_38 : ∀ (x2_j38 : Int32) (H : Heap) (locs : List Loc) (ls : Array Slot), k_38 x2_j38 = some o → CI D cy s P0 s.heap H locs q z tl xx I J A B → lv_has ls 5 [(0, .ref (q 0)), (1, .int x1), (2, .int x2_j38), (3, .int x3), (4, .int r_18)] → W p l e (rmL 2) s m args below meth c H locs 0 0 Q (F0 m 38 ls []) := by
          intro x2_j38 H locs ls hs hI hl
          rw [ek_38] at hs
          refine lv_aload_n C.1 C.2.1 dX4_costAt_38 rfl (lv_at hl 0 rfl) ?_
          refine cg_X4_20 C hI dX4_costAt_39 ?_
          refine lv_iload_n C.1 C.2.1 dX4_costAt_42 rfl (lv_at hl 3 rfl) ?_
          refine lv_iconst (v := 0) C.1 C.2.1 dX4_costAt_43 (by decide) ?_
          obtain ⟨r_44, hc, hs⟩ := bd_e hs
          refine C_call C hI (kX5_cell l D cy P0 q z tl xx 3 (by decide) _ _ _ _ _ _ _ hc) (rv_X5 hI 3 (by decide)) ml_X4_83 im_X5_cell se_X5_cell ini_X5 co_X5_cell hyX5_cell rfl ⟨by decide, by decide⟩ hl.1 rfl (Nat.le_of_ble_eq_true rfl) dX4_costAt_44 (fun H locs hI => ?_)
          refine lv_iconst (v := 1) C.1 C.2.1 dX4_costAt_47 (by decide) ?_
          refine lv_icmp_ne (tgt := 73) C.1 C.2.1 dX4_costAt_48 (by decide) (fun cn => ?_) (fun cn => ?_)
          · have hs := if_f cn hs
            obtain ⟨x3_73, ex3_73⟩ : ∃ y : Int32, y = (x3 + 1) := ⟨_, rfl⟩
            have hs := gv_at ex3_73 hs
            refine lv_iinc (v := x3_73) (lv' := [(3, .int x3_73), (0, .ref (q 0)), (1, .int x1), (2, .int x2_j38), (4, .int r_18)]) C.1 C.2.1 dX4_costAt_73 hl (k := 3) rfl (by rw [ex3_73]; rfl) (by decide) rfl (fun ls hl => ?_)
            refine lv_goto (tgt := 4) C.1 C.2.1 dX4_costAt_76 (by decide) ?_
            exact ih _ _ _ _ _ _ _ _ _ _ _ _ hs hI (lv_sub hl [1, 2, 3, 0] rfl) kk0
          · have hs := if_t cn hs
            refine lv_iload C.1 C.2.1 dX4_costAt_51 (lv_at hl 4 rfl) ?_
            refine lv_aload_n C.1 C.2.1 dX4_costAt_53 rfl (lv_at hl 0 rfl) ?_
            refine cg_X4_15 C hI dX4_costAt_54 ?_
            refine lv_bipush (v := 8) C.1 C.2.1 dX4_costAt_57 (by decide) ?_
            refine ca_15 C hI (by decide) dX4_costAt_59 ?_
            refine lv_icmp_ge (tgt := 73) C.1 C.2.1 dX4_costAt_60 (by decide) (fun cn => ?_) (fun cn => ?_)
            · have hs := if_t cn hs
              obtain ⟨x3_73, ex3_73⟩ : ∃ y : Int32, y = (x3 + 1) := ⟨_, rfl⟩
              have hs := gv_at ex3_73 hs
              refine lv_iinc (v := x3_73) (lv' := [(3, .int x3_73), (0, .ref (q 0)), (1, .int x1), (2, .int x2_j38), (4, .int r_18)]) C.1 C.2.1 dX4_costAt_73 hl (k := 3) rfl (by rw [ex3_73]; rfl) (by decide) rfl (fun ls hl => ?_)
              refine lv_goto (tgt := 4) C.1 C.2.1 dX4_costAt_76 (by decide) ?_
              exact ih _ _ _ _ _ _ _ _ _ _ _ _ hs hI (lv_sub hl [1, 2, 3, 0] rfl) kk0
            · have hs := if_f cn hs
              refine lv_iload_n C.1 C.2.1 dX4_costAt_63 rfl (lv_at hl 2 rfl) ?_
              refine lv_aload_n C.1 C.2.1 dX4_costAt_64 rfl (lv_at hl 0 rfl) ?_
              refine cg_X4_15 C hI dX4_costAt_65 ?_
              refine lv_bipush (v := 7) C.1 C.2.1 dX4_costAt_68 (by decide) ?_
              refine ca_15 C hI (by decide) dX4_costAt_70 ?_
              refine lv_iadd C.1 C.2.1 dX4_costAt_71 ?_
              refine lv_topi (fun x2_72 ex2_72 => ?_)
              have hs := gv_at ex2_72 hs
              refine lv_istore_n (lv' := [(2, .int x2_72), (0, .ref (q 0)), (1, .int x1), (3, .int x3), (4, .int r_18)]) C.1 C.2.1 dX4_costAt_72 rfl hl (by decide) rfl (fun ls hl => ?_)
              obtain ⟨x3_73, ex3_73⟩ : ∃ y : Int32, y = (x3 + 1) := ⟨_, rfl⟩
              have hs := gv_at ex3_73 hs
              refine lv_iinc (v := x3_73) (lv' := [(3, .int x3_73), (2, .int x2_72), (0, .ref (q 0)), (1, .int x1), (4, .int r_18)]) C.1 C.2.1 dX4_costAt_73 hl (k := 3) rfl (by rw [ex3_73]; rfl) (by decide) rfl (fun ls hl => ?_)
              refine lv_goto (tgt := 4) C.1 C.2.1 dX4_costAt_76 (by decide) ?_
              exact ih _ _ _ _ _ _ _ _ _ _ _ _ hs hI (lv_sub hl [2, 3, 1, 0] rfl) kk0
        refine lv_if_le (tgt := 38) C.1 C.2.1 dX4_costAt_25 (by decide) (fun cn => ?_) (fun cn => ?_)
        · have hs := if_t cn hs
          exact KJ_38 _ _ _ _ hs hI (lv_sub hl [1, 2, 3, 4, 0] rfl)
        · have hs := if_f cn hs
          refine lv_iload_n C.1 C.2.1 dX4_costAt_28 rfl (lv_at hl 3 rfl) ?_
          refine lv_aload_n C.1 C.2.1 dX4_costAt_29 rfl (lv_at hl 1 rfl) ?_
          refine cg_X4_15 C hI dX4_costAt_30 ?_
          refine lv_bipush (v := 6) C.1 C.2.1 dX4_costAt_33 (by decide) ?_
          refine ca_15 C hI (by decide) dX4_costAt_35 ?_
          refine lv_iadd C.1 C.2.1 dX4_costAt_36 ?_
          refine lv_topi (fun x2_37 ex2_37 => ?_)
          have hs := gv_at ex2_37 hs
          refine lv_istore_n (lv' := [(2, .int x2_37), (4, .int r_18), (0, .ref (q 0)), (1, .int x1), (3, .int x3)]) C.1 C.2.1 dX4_costAt_37 rfl hl (by decide) rfl (fun ls hl => ?_)
          exact KJ_38 _ _ _ _ hs hI (lv_sub hl [2, 3, 0, 4, 1] rfl)
  obtain ⟨x2_4, hL, hs⟩ := bd_e hs
  refine KL_4 FU _ _ _ _ _ _ _ _ _ _ _ _ hL hI (lv_sub hl [2, 3, 1, 0] rfl) (fun z0 H locs ls eo hI hl => ?_)
  subst eo
  refine lv_iload_n C.1 C.2.1 dX4_costAt_79 rfl (lv_at hl 0 rfl) ?_
  obtain rfl := Option.some.inj hs
  exact C_iret C hI dX4_costAt_80

def sX7_wind (x1 : Int32) (x2 : Int32) (x3 : Int32) (I : Nat → Int32) (J : Nat → Int64) (A : Nat → Nat → Int32) (B : Nat → Nat → Int64) : Option ((Int32) × (Nat → Int32) × (Nat → Nat → Int32)) :=
(sX7_isWay x1).bind fun r_1 =>
if r_1 = 0 then
((sX7_refuse (-1 : Int32) I J A B).bind fun (r_29, I) =>
some (r_29, I, A))
else
(sX7_isWithin x2 (1 : Int32) (100 : Int32)).bind fun r_11 =>
if r_11 = 0 then
((sX7_refuse (-1 : Int32) I J A B).bind fun (r_29, I) =>
some (r_29, I, A))
else
(sX7_isWithin x3 (1 : Int32) (1000000 : Int32)).bind fun r_21 =>
if r_21 = 0 then
((sX7_refuse (-1 : Int32) I J A B).bind fun (r_29, I) =>
some (r_29, I, A))
else
(sX5_isFull 0  I J A B).bind fun r_40 =>
if r_40 = 0 then
((sX5_open 0  I J A B).bind fun I =>
(sX5_put 0 (0 : Int32) x1 I J A B).bind fun A =>
(sX5_put 0 (1 : Int32) x2 I J A B).bind fun A =>
(sX5_put 0 (2 : Int32) x3 I J A B).bind fun A =>
(sX7_accept ((I 32) - (1 : Int32)) I J A B).bind fun (r_112, I) =>
some (r_112, I, A))
else
(sX7_refuse (-5 : Int32) I J A B).bind fun (r_49, I) =>
some (r_49, I, A)
set_option maxRecDepth 100000 in
set_option maxHeartbeats 8000000 in
theorem kX7_wind (l : Launch) (D : va_G) (cy : Nat → ClassId) (P0 : Nat → Prop) (q z : Nat → Nat) (tl : va_W) (xx : (Nat → Option Nat) × (Nat → Option Nat) × Nat) (x1 : Int32) (x2 : Int32) (x3 : Int32) (I : Nat → Int32) (J : Nat → Int64) (A : Nat → Nat → Int32) (B : Nat → Nat → Int64) (r : Int32) (I2 : Nat → Int32) (A2 : Nat → Nat → Int32) (hs : sX7_wind x1 x2 x3 I J A B = some (r, I2, A2)) : McC l yX7_wind cX7_wind 4 (some .int) 2 [.ref (q 99), .int x1, .int x2, .int x3] D cy P0 q z tl xx I J A B (some (.int r)) xx I2 J A2 B := by
  refine C_start rfl (Nat.le_of_ble_eq_true rfl) ?_
  intro p e s m args below meth c H locs C hI ls hl
  have hl : lv_has ls 4 [(0, .ref (q 99)), (1, .int x1), (2, .int x2), (3, .int x3)] := hl
  rw [sX7_wind] at hs
  refine lv_iload_n C.1 C.2.1 dX7_wind_0 rfl (lv_at hl 1 rfl) ?_
  obtain ⟨r_1, hc, hs⟩ := bd_e hs
  refine S_call (h := 2) C (kX7_isWay l _ _ hc) ml_X7_100 st_X7_isWay ini_X7 co_X7_isWay hyX7_isWay rfl ⟨by decide, by decide⟩ hl.1 rfl (Nat.le_of_ble_eq_true rfl) dX7_wind_1 ⟨Nat.le_refl 0, Nat.le_refl 0, Nat.le_refl _, Nat.le_refl _⟩ ?_
  refine lv_if_eq (tgt := 27) C.1 C.2.1 dX7_wind_4 (by decide) (fun cn => ?_) (fun cn => ?_)
  · have hs := if_t cn hs
    refine lv_aload_n C.1 C.2.1 dX7_wind_27 rfl (lv_at hl 0 rfl) ?_
    refine lv_iconst (v := -1) C.1 C.2.1 dX7_wind_28 (by decide) ?_
    obtain ⟨⟨r_29, I⟩, hc, hs⟩ := bd_e hs
    refine C_call C hI (kX7_refuse l D cy P0 q z tl xx _ _ _ _ _ _ _ hc) (rv_X7 hI) ml_X7_70 im_X7_refuse se_X7_refuse ini_X7 co_X7_refuse hyX7_refuse rfl ⟨by decide, by decide⟩ hl.1 rfl (Nat.le_of_ble_eq_true rfl) dX7_wind_29 (fun H locs hI => ?_)
    obtain ⟨rfl, rfl, rfl⟩ := so3 hs
    exact C_iret C hI dX7_wind_32
  · have hs := if_f cn hs
    refine lv_iload_n C.1 C.2.1 dX7_wind_7 rfl (lv_at hl 2 rfl) ?_
    refine lv_iconst (v := 1) C.1 C.2.1 dX7_wind_8 (by decide) ?_
    refine lv_bipush (v := 100) C.1 C.2.1 dX7_wind_9 (by decide) ?_
    obtain ⟨r_11, hc, hs⟩ := bd_e hs
    refine S_call (h := 2) C (kX7_isWithin l _ _ _ _ hc) ml_X7_80 st_X7_isWithin ini_X7 co_X7_isWithin hyX7_isWithin rfl ⟨by decide, by decide⟩ hl.1 rfl (Nat.le_of_ble_eq_true rfl) dX7_wind_11 ⟨Nat.le_refl 0, Nat.le_refl 0, Nat.le_refl _, Nat.le_refl _⟩ ?_
    refine lv_if_eq (tgt := 27) C.1 C.2.1 dX7_wind_14 (by decide) (fun cn => ?_) (fun cn => ?_)
    · have hs := if_t cn hs
      refine lv_aload_n C.1 C.2.1 dX7_wind_27 rfl (lv_at hl 0 rfl) ?_
      refine lv_iconst (v := -1) C.1 C.2.1 dX7_wind_28 (by decide) ?_
      obtain ⟨⟨r_29, I⟩, hc, hs⟩ := bd_e hs
      refine C_call C hI (kX7_refuse l D cy P0 q z tl xx _ _ _ _ _ _ _ hc) (rv_X7 hI) ml_X7_70 im_X7_refuse se_X7_refuse ini_X7 co_X7_refuse hyX7_refuse rfl ⟨by decide, by decide⟩ hl.1 rfl (Nat.le_of_ble_eq_true rfl) dX7_wind_29 (fun H locs hI => ?_)
      obtain ⟨rfl, rfl, rfl⟩ := so3 hs
      exact C_iret C hI dX7_wind_32
    · have hs := if_f cn hs
      refine lv_iload_n C.1 C.2.1 dX7_wind_17 rfl (lv_at hl 3 rfl) ?_
      refine lv_iconst (v := 1) C.1 C.2.1 dX7_wind_18 (by decide) ?_
      refine lv_ldc C.1 C.2.1 C.2.2.2.1 (C.2.2.2.2.1 _ kc_X7_103) dX7_wind_19 ?_
      obtain ⟨r_21, hc, hs⟩ := bd_e hs
      refine S_call (h := 2) C (kX7_isWithin l _ _ _ _ hc) ml_X7_80 st_X7_isWithin ini_X7 co_X7_isWithin hyX7_isWithin rfl ⟨by decide, by decide⟩ hl.1 rfl (Nat.le_of_ble_eq_true rfl) dX7_wind_21 ⟨Nat.le_refl 0, Nat.le_refl 0, Nat.le_refl _, Nat.le_refl _⟩ ?_
      refine lv_if_ne (tgt := 33) C.1 C.2.1 dX7_wind_24 (by decide) (fun cn => ?_) (fun cn => ?_)
      · have hs := if_f cn hs
        refine lv_aload_n C.1 C.2.1 dX7_wind_33 rfl (lv_at hl 0 rfl) ?_
        refine cg_X7_0 C hI dX7_wind_34 ?_
        refine cg_X7_17 C hI dX7_wind_37 ?_
        obtain ⟨r_40, hc, hs⟩ := bd_e hs
        refine C_call C hI (kX5_isFull l D cy P0 q z tl xx 0 (by decide) _ _ _ _ _ hc) (rv_X5 hI 0 (by decide)) ml_X7_108 im_X5_isFull se_X5_isFull ini_X5 co_X5_isFull hyX5_isFull rfl ⟨by decide, by decide⟩ hl.1 rfl (Nat.le_of_ble_eq_true rfl) dX7_wind_40 (fun H locs hI => ?_)
        refine lv_if_eq (tgt := 53) C.1 C.2.1 dX7_wind_43 (by decide) (fun cn => ?_) (fun cn => ?_)
        · have hs := if_t cn hs
          refine lv_aload_n C.1 C.2.1 dX7_wind_53 rfl (lv_at hl 0 rfl) ?_
          refine cg_X7_0 C hI dX7_wind_54 ?_
          refine cg_X7_17 C hI dX7_wind_57 ?_
          obtain ⟨I, hc, hs⟩ := bd_e hs
          refine C_call C hI (kX5_open l D cy P0 q z tl xx 0 (by decide) _ _ _ _ _ hc) (rv_X5 hI 0 (by decide)) ml_X7_114 im_X5_open se_X5_open ini_X5 co_X5_open hyX5_open rfl ⟨by decide, by decide⟩ hl.1 rfl (Nat.le_of_ble_eq_true rfl) dX7_wind_60 (fun H locs hI => ?_)
          refine lv_aload_n C.1 C.2.1 dX7_wind_63 rfl (lv_at hl 0 rfl) ?_
          refine cg_X7_0 C hI dX7_wind_64 ?_
          refine cg_X7_17 C hI dX7_wind_67 ?_
          refine lv_iconst (v := 0) C.1 C.2.1 dX7_wind_70 (by decide) ?_
          refine lv_iload_n C.1 C.2.1 dX7_wind_71 rfl (lv_at hl 1 rfl) ?_
          obtain ⟨A, hc, hs⟩ := bd_e hs
          refine C_call C hI (kX5_put l D cy P0 q z tl xx 0 (by decide) _ _ _ _ _ _ _ hc) (rv_X5 hI 0 (by decide)) ml_X7_117 im_X5_put se_X5_put ini_X5 co_X5_put hyX5_put rfl ⟨by decide, by decide⟩ hl.1 rfl (Nat.le_of_ble_eq_true rfl) dX7_wind_72 (fun H locs hI => ?_)
          refine lv_aload_n C.1 C.2.1 dX7_wind_75 rfl (lv_at hl 0 rfl) ?_
          refine cg_X7_0 C hI dX7_wind_76 ?_
          refine cg_X7_17 C hI dX7_wind_79 ?_
          refine lv_iconst (v := 1) C.1 C.2.1 dX7_wind_82 (by decide) ?_
          refine lv_iload_n C.1 C.2.1 dX7_wind_83 rfl (lv_at hl 2 rfl) ?_
          obtain ⟨A, hc, hs⟩ := bd_e hs
          refine C_call C hI (kX5_put l D cy P0 q z tl xx 0 (by decide) _ _ _ _ _ _ _ hc) (rv_X5 hI 0 (by decide)) ml_X7_117 im_X5_put se_X5_put ini_X5 co_X5_put hyX5_put rfl ⟨by decide, by decide⟩ hl.1 rfl (Nat.le_of_ble_eq_true rfl) dX7_wind_84 (fun H locs hI => ?_)
          refine lv_aload_n C.1 C.2.1 dX7_wind_87 rfl (lv_at hl 0 rfl) ?_
          refine cg_X7_0 C hI dX7_wind_88 ?_
          refine cg_X7_17 C hI dX7_wind_91 ?_
          refine lv_iconst (v := 2) C.1 C.2.1 dX7_wind_94 (by decide) ?_
          refine lv_iload_n C.1 C.2.1 dX7_wind_95 rfl (lv_at hl 3 rfl) ?_
          obtain ⟨A, hc, hs⟩ := bd_e hs
          refine C_call C hI (kX5_put l D cy P0 q z tl xx 0 (by decide) _ _ _ _ _ _ _ hc) (rv_X5 hI 0 (by decide)) ml_X7_117 im_X5_put se_X5_put ini_X5 co_X5_put hyX5_put rfl ⟨by decide, by decide⟩ hl.1 rfl (Nat.le_of_ble_eq_true rfl) dX7_wind_96 (fun H locs hI => ?_)
          refine lv_aload_n C.1 C.2.1 dX7_wind_99 rfl (lv_at hl 0 rfl) ?_
          refine lv_aload_n C.1 C.2.1 dX7_wind_100 rfl (lv_at hl 0 rfl) ?_
          refine cg_X7_0 C hI dX7_wind_101 ?_
          refine cg_X7_17 C hI dX7_wind_104 ?_
          refine cg_X7_32 C hI dX7_wind_107 ?_
          refine lv_iconst (v := 1) C.1 C.2.1 dX7_wind_110 (by decide) ?_
          refine lv_isub C.1 C.2.1 dX7_wind_111 ?_
          obtain ⟨⟨r_112, I⟩, hc, hs⟩ := bd_e hs
          refine C_call C hI (kX7_accept l D cy P0 q z tl xx _ _ _ _ _ _ _ hc) (rv_X7 hI) ml_X7_77 im_X7_accept se_X7_accept ini_X7 co_X7_accept hyX7_accept rfl ⟨by decide, by decide⟩ hl.1 rfl (Nat.le_of_ble_eq_true rfl) dX7_wind_112 (fun H locs hI => ?_)
          obtain ⟨rfl, rfl, rfl⟩ := so3 hs
          exact C_iret C hI dX7_wind_115
        · have hs := if_f cn hs
          refine lv_aload_n C.1 C.2.1 dX7_wind_46 rfl (lv_at hl 0 rfl) ?_
          refine lv_bipush (v := -5) C.1 C.2.1 dX7_wind_47 (by decide) ?_
          obtain ⟨⟨r_49, I⟩, hc, hs⟩ := bd_e hs
          refine C_call C hI (kX7_refuse l D cy P0 q z tl xx _ _ _ _ _ _ _ hc) (rv_X7 hI) ml_X7_70 im_X7_refuse se_X7_refuse ini_X7 co_X7_refuse hyX7_refuse rfl ⟨by decide, by decide⟩ hl.1 rfl (Nat.le_of_ble_eq_true rfl) dX7_wind_49 (fun H locs hI => ?_)
          obtain ⟨rfl, rfl, rfl⟩ := so3 hs
          exact C_iret C hI dX7_wind_52
      · have hs := if_t cn hs
        refine lv_aload_n C.1 C.2.1 dX7_wind_27 rfl (lv_at hl 0 rfl) ?_
        refine lv_iconst (v := -1) C.1 C.2.1 dX7_wind_28 (by decide) ?_
        obtain ⟨⟨r_29, I⟩, hc, hs⟩ := bd_e hs
        refine C_call C hI (kX7_refuse l D cy P0 q z tl xx _ _ _ _ _ _ _ hc) (rv_X7 hI) ml_X7_70 im_X7_refuse se_X7_refuse ini_X7 co_X7_refuse hyX7_refuse rfl ⟨by decide, by decide⟩ hl.1 rfl (Nat.le_of_ble_eq_true rfl) dX7_wind_29 (fun H locs hI => ?_)
        obtain ⟨rfl, rfl, rfl⟩ := so3 hs
        exact C_iret C hI dX7_wind_32

def sX7_find (x1 : Int32) (x2 : Int32) (x3 : Int32) (I : Nat → Int32) (J : Nat → Int64) (A : Nat → Nat → Int32) (B : Nat → Nat → Int64) : Option ((Int32) × (Nat → Int32) × (Nat → Nat → Int32)) :=
(sX7_isPerson x1).bind fun r_1 =>
if r_1 = 0 then
((sX7_refuse (-1 : Int32) I J A B).bind fun (r_23, I) =>
some (r_23, I, A))
else
(sX7_isFact x2).bind fun r_8 =>
if r_8 = 0 then
((sX7_refuse (-1 : Int32) I J A B).bind fun (r_23, I) =>
some (r_23, I, A))
else
(sX7_isDay x3).bind fun r_15 =>
if r_15 = 0 then
((sX7_refuse (-1 : Int32) I J A B).bind fun (r_23, I) =>
some (r_23, I, A))
else
(sX4_learn x1 x2 x3 I J A B).bind fun A =>
(sX7_accept (0 : Int32) I J A B).bind fun (r_39, I) =>
some (r_39, I, A)
set_option maxRecDepth 100000 in
set_option maxHeartbeats 8000000 in
theorem kX7_find (l : Launch) (D : va_G) (cy : Nat → ClassId) (P0 : Nat → Prop) (q z : Nat → Nat) (tl : va_W) (xx : (Nat → Option Nat) × (Nat → Option Nat) × Nat) (x1 : Int32) (x2 : Int32) (x3 : Int32) (I : Nat → Int32) (J : Nat → Int64) (A : Nat → Nat → Int32) (B : Nat → Nat → Int64) (r : Int32) (I2 : Nat → Int32) (A2 : Nat → Nat → Int32) (hs : sX7_find x1 x2 x3 I J A B = some (r, I2, A2)) : McC l yX7_find cX7_find 4 (some .int) 2 [.ref (q 99), .int x1, .int x2, .int x3] D cy P0 q z tl xx I J A B (some (.int r)) xx I2 J A2 B := by
  refine C_start rfl (Nat.le_of_ble_eq_true rfl) ?_
  intro p e s m args below meth c H locs C hI ls hl
  have hl : lv_has ls 4 [(0, .ref (q 99)), (1, .int x1), (2, .int x2), (3, .int x3)] := hl
  rw [sX7_find] at hs
  refine lv_iload_n C.1 C.2.1 dX7_find_0 rfl (lv_at hl 1 rfl) ?_
  obtain ⟨r_1, hc, hs⟩ := bd_e hs
  refine S_call (h := 2) C (kX7_isPerson l _ _ hc) ml_X7_197 st_X7_isPerson ini_X7 co_X7_isPerson hyX7_isPerson rfl ⟨by decide, by decide⟩ hl.1 rfl (Nat.le_of_ble_eq_true rfl) dX7_find_1 ⟨Nat.le_refl 0, Nat.le_refl 0, Nat.le_refl _, Nat.le_refl _⟩ ?_
  refine lv_if_eq (tgt := 21) C.1 C.2.1 dX7_find_4 (by decide) (fun cn => ?_) (fun cn => ?_)
  · have hs := if_t cn hs
    refine lv_aload_n C.1 C.2.1 dX7_find_21 rfl (lv_at hl 0 rfl) ?_
    refine lv_iconst (v := -1) C.1 C.2.1 dX7_find_22 (by decide) ?_
    obtain ⟨⟨r_23, I⟩, hc, hs⟩ := bd_e hs
    refine C_call C hI (kX7_refuse l D cy P0 q z tl xx _ _ _ _ _ _ _ hc) (rv_X7 hI) ml_X7_70 im_X7_refuse se_X7_refuse ini_X7 co_X7_refuse hyX7_refuse rfl ⟨by decide, by decide⟩ hl.1 rfl (Nat.le_of_ble_eq_true rfl) dX7_find_23 (fun H locs hI => ?_)
    obtain ⟨rfl, rfl, rfl⟩ := so3 hs
    exact C_iret C hI dX7_find_26
  · have hs := if_f cn hs
    refine lv_iload_n C.1 C.2.1 dX7_find_7 rfl (lv_at hl 2 rfl) ?_
    obtain ⟨r_8, hc, hs⟩ := bd_e hs
    refine S_call (h := 2) C (kX7_isFact l _ _ hc) ml_X7_273 st_X7_isFact ini_X7 co_X7_isFact hyX7_isFact rfl ⟨by decide, by decide⟩ hl.1 rfl (Nat.le_of_ble_eq_true rfl) dX7_find_8 ⟨Nat.le_refl 0, Nat.le_refl 0, Nat.le_refl _, Nat.le_refl _⟩ ?_
    refine lv_if_eq (tgt := 21) C.1 C.2.1 dX7_find_11 (by decide) (fun cn => ?_) (fun cn => ?_)
    · have hs := if_t cn hs
      refine lv_aload_n C.1 C.2.1 dX7_find_21 rfl (lv_at hl 0 rfl) ?_
      refine lv_iconst (v := -1) C.1 C.2.1 dX7_find_22 (by decide) ?_
      obtain ⟨⟨r_23, I⟩, hc, hs⟩ := bd_e hs
      refine C_call C hI (kX7_refuse l D cy P0 q z tl xx _ _ _ _ _ _ _ hc) (rv_X7 hI) ml_X7_70 im_X7_refuse se_X7_refuse ini_X7 co_X7_refuse hyX7_refuse rfl ⟨by decide, by decide⟩ hl.1 rfl (Nat.le_of_ble_eq_true rfl) dX7_find_23 (fun H locs hI => ?_)
      obtain ⟨rfl, rfl, rfl⟩ := so3 hs
      exact C_iret C hI dX7_find_26
    · have hs := if_f cn hs
      refine lv_iload_n C.1 C.2.1 dX7_find_14 rfl (lv_at hl 3 rfl) ?_
      obtain ⟨r_15, hc, hs⟩ := bd_e hs
      refine S_call (h := 2) C (kX7_isDay l _ _ hc) ml_X7_190 st_X7_isDay ini_X7 co_X7_isDay hyX7_isDay rfl ⟨by decide, by decide⟩ hl.1 rfl (Nat.le_of_ble_eq_true rfl) dX7_find_15 ⟨Nat.le_refl 0, Nat.le_refl 0, Nat.le_refl _, Nat.le_refl _⟩ ?_
      refine lv_if_ne (tgt := 27) C.1 C.2.1 dX7_find_18 (by decide) (fun cn => ?_) (fun cn => ?_)
      · have hs := if_f cn hs
        refine lv_aload_n C.1 C.2.1 dX7_find_27 rfl (lv_at hl 0 rfl) ?_
        refine cg_X7_0 C hI dX7_find_28 ?_
        refine lv_iload_n C.1 C.2.1 dX7_find_31 rfl (lv_at hl 1 rfl) ?_
        refine lv_iload_n C.1 C.2.1 dX7_find_32 rfl (lv_at hl 2 rfl) ?_
        refine lv_iload_n C.1 C.2.1 dX7_find_33 rfl (lv_at hl 3 rfl) ?_
        obtain ⟨A, hc, hs⟩ := bd_e hs
        refine C_call C hI (kX4_learn l D cy P0 q z tl xx _ _ _ _ _ _ _ _ hc) (rv_X4 hI) ml_X7_276 im_X4_learn se_X4_learn ini_X4 co_X4_learn hyX4_learn rfl ⟨by decide, by decide⟩ hl.1 rfl (Nat.le_of_ble_eq_true rfl) dX7_find_34 (fun H locs hI => ?_)
        refine lv_aload_n C.1 C.2.1 dX7_find_37 rfl (lv_at hl 0 rfl) ?_
        refine lv_iconst (v := 0) C.1 C.2.1 dX7_find_38 (by decide) ?_
        obtain ⟨⟨r_39, I⟩, hc, hs⟩ := bd_e hs
        refine C_call C hI (kX7_accept l D cy P0 q z tl xx _ _ _ _ _ _ _ hc) (rv_X7 hI) ml_X7_77 im_X7_accept se_X7_accept ini_X7 co_X7_accept hyX7_accept rfl ⟨by decide, by decide⟩ hl.1 rfl (Nat.le_of_ble_eq_true rfl) dX7_find_39 (fun H locs hI => ?_)
        obtain ⟨rfl, rfl, rfl⟩ := so3 hs
        exact C_iret C hI dX7_find_42
      · have hs := if_t cn hs
        refine lv_aload_n C.1 C.2.1 dX7_find_21 rfl (lv_at hl 0 rfl) ?_
        refine lv_iconst (v := -1) C.1 C.2.1 dX7_find_22 (by decide) ?_
        obtain ⟨⟨r_23, I⟩, hc, hs⟩ := bd_e hs
        refine C_call C hI (kX7_refuse l D cy P0 q z tl xx _ _ _ _ _ _ _ hc) (rv_X7 hI) ml_X7_70 im_X7_refuse se_X7_refuse ini_X7 co_X7_refuse hyX7_refuse rfl ⟨by decide, by decide⟩ hl.1 rfl (Nat.le_of_ble_eq_true rfl) dX7_find_23 (fun H locs hI => ?_)
        obtain ⟨rfl, rfl, rfl⟩ := so3 hs
        exact C_iret C hI dX7_find_26

def sX7_tell (x1 : Int32) (x2 : Int32) (x3 : Int32) (x4 : Int32) (I : Nat → Int32) (J : Nat → Int64) (A : Nat → Nat → Int32) (B : Nat → Nat → Int64) : Option ((Int32) × (Nat → Int32) × (Nat → Nat → Int32)) :=
(sX7_isPerson x1).bind fun r_1 =>
if r_1 = 0 then
((sX7_refuse (-1 : Int32) I J A B).bind fun (r_31, I) =>
some (r_31, I, A))
else
(sX7_isPerson x2).bind fun r_8 =>
if r_8 = 0 then
((sX7_refuse (-1 : Int32) I J A B).bind fun (r_31, I) =>
some (r_31, I, A))
else
(sX7_isFact x3).bind fun r_15 =>
if r_15 = 0 then
((sX7_refuse (-1 : Int32) I J A B).bind fun (r_31, I) =>
some (r_31, I, A))
else
(sX7_isDay x4).bind fun r_23 =>
if r_23 = 0 then
((sX7_refuse (-1 : Int32) I J A B).bind fun (r_31, I) =>
some (r_31, I, A))
else
ck (inB ((x1 * (8 : Int32)) + x3) 64) <|
if (A 16 (ix ((x1 * (8 : Int32)) + x3))) ≤ x4 then
((sX4_learn x2 x3 x4 I J A B).bind fun A =>
(sX7_accept (0 : Int32) I J A B).bind fun (r_74, I) =>
some (r_74, I, A))
else
(sX7_refuse (-3 : Int32) I J A B).bind fun (r_57, I) =>
some (r_57, I, A)
set_option maxRecDepth 100000 in
set_option maxHeartbeats 8000000 in
theorem kX7_tell (l : Launch) (D : va_G) (cy : Nat → ClassId) (P0 : Nat → Prop) (q z : Nat → Nat) (tl : va_W) (xx : (Nat → Option Nat) × (Nat → Option Nat) × Nat) (x1 : Int32) (x2 : Int32) (x3 : Int32) (x4 : Int32) (I : Nat → Int32) (J : Nat → Int64) (A : Nat → Nat → Int32) (B : Nat → Nat → Int64) (r : Int32) (I2 : Nat → Int32) (A2 : Nat → Nat → Int32) (hs : sX7_tell x1 x2 x3 x4 I J A B = some (r, I2, A2)) : McC l yX7_tell cX7_tell 5 (some .int) 2 [.ref (q 99), .int x1, .int x2, .int x3, .int x4] D cy P0 q z tl xx I J A B (some (.int r)) xx I2 J A2 B := by
  refine C_start rfl (Nat.le_of_ble_eq_true rfl) ?_
  intro p e s m args below meth c H locs C hI ls hl
  have hl : lv_has ls 5 [(0, .ref (q 99)), (1, .int x1), (2, .int x2), (3, .int x3), (4, .int x4)] := hl
  rw [sX7_tell] at hs
  refine lv_iload_n C.1 C.2.1 dX7_tell_0 rfl (lv_at hl 1 rfl) ?_
  obtain ⟨r_1, hc, hs⟩ := bd_e hs
  refine S_call (h := 2) C (kX7_isPerson l _ _ hc) ml_X7_197 st_X7_isPerson ini_X7 co_X7_isPerson hyX7_isPerson rfl ⟨by decide, by decide⟩ hl.1 rfl (Nat.le_of_ble_eq_true rfl) dX7_tell_1 ⟨Nat.le_refl 0, Nat.le_refl 0, Nat.le_refl _, Nat.le_refl _⟩ ?_
  refine lv_if_eq (tgt := 29) C.1 C.2.1 dX7_tell_4 (by decide) (fun cn => ?_) (fun cn => ?_)
  · have hs := if_t cn hs
    refine lv_aload_n C.1 C.2.1 dX7_tell_29 rfl (lv_at hl 0 rfl) ?_
    refine lv_iconst (v := -1) C.1 C.2.1 dX7_tell_30 (by decide) ?_
    obtain ⟨⟨r_31, I⟩, hc, hs⟩ := bd_e hs
    refine C_call C hI (kX7_refuse l D cy P0 q z tl xx _ _ _ _ _ _ _ hc) (rv_X7 hI) ml_X7_70 im_X7_refuse se_X7_refuse ini_X7 co_X7_refuse hyX7_refuse rfl ⟨by decide, by decide⟩ hl.1 rfl (Nat.le_of_ble_eq_true rfl) dX7_tell_31 (fun H locs hI => ?_)
    obtain ⟨rfl, rfl, rfl⟩ := so3 hs
    exact C_iret C hI dX7_tell_34
  · have hs := if_f cn hs
    refine lv_iload_n C.1 C.2.1 dX7_tell_7 rfl (lv_at hl 2 rfl) ?_
    obtain ⟨r_8, hc, hs⟩ := bd_e hs
    refine S_call (h := 2) C (kX7_isPerson l _ _ hc) ml_X7_197 st_X7_isPerson ini_X7 co_X7_isPerson hyX7_isPerson rfl ⟨by decide, by decide⟩ hl.1 rfl (Nat.le_of_ble_eq_true rfl) dX7_tell_8 ⟨Nat.le_refl 0, Nat.le_refl 0, Nat.le_refl _, Nat.le_refl _⟩ ?_
    refine lv_if_eq (tgt := 29) C.1 C.2.1 dX7_tell_11 (by decide) (fun cn => ?_) (fun cn => ?_)
    · have hs := if_t cn hs
      refine lv_aload_n C.1 C.2.1 dX7_tell_29 rfl (lv_at hl 0 rfl) ?_
      refine lv_iconst (v := -1) C.1 C.2.1 dX7_tell_30 (by decide) ?_
      obtain ⟨⟨r_31, I⟩, hc, hs⟩ := bd_e hs
      refine C_call C hI (kX7_refuse l D cy P0 q z tl xx _ _ _ _ _ _ _ hc) (rv_X7 hI) ml_X7_70 im_X7_refuse se_X7_refuse ini_X7 co_X7_refuse hyX7_refuse rfl ⟨by decide, by decide⟩ hl.1 rfl (Nat.le_of_ble_eq_true rfl) dX7_tell_31 (fun H locs hI => ?_)
      obtain ⟨rfl, rfl, rfl⟩ := so3 hs
      exact C_iret C hI dX7_tell_34
    · have hs := if_f cn hs
      refine lv_iload_n C.1 C.2.1 dX7_tell_14 rfl (lv_at hl 3 rfl) ?_
      obtain ⟨r_15, hc, hs⟩ := bd_e hs
      refine S_call (h := 2) C (kX7_isFact l _ _ hc) ml_X7_273 st_X7_isFact ini_X7 co_X7_isFact hyX7_isFact rfl ⟨by decide, by decide⟩ hl.1 rfl (Nat.le_of_ble_eq_true rfl) dX7_tell_15 ⟨Nat.le_refl 0, Nat.le_refl 0, Nat.le_refl _, Nat.le_refl _⟩ ?_
      refine lv_if_eq (tgt := 29) C.1 C.2.1 dX7_tell_18 (by decide) (fun cn => ?_) (fun cn => ?_)
      · have hs := if_t cn hs
        refine lv_aload_n C.1 C.2.1 dX7_tell_29 rfl (lv_at hl 0 rfl) ?_
        refine lv_iconst (v := -1) C.1 C.2.1 dX7_tell_30 (by decide) ?_
        obtain ⟨⟨r_31, I⟩, hc, hs⟩ := bd_e hs
        refine C_call C hI (kX7_refuse l D cy P0 q z tl xx _ _ _ _ _ _ _ hc) (rv_X7 hI) ml_X7_70 im_X7_refuse se_X7_refuse ini_X7 co_X7_refuse hyX7_refuse rfl ⟨by decide, by decide⟩ hl.1 rfl (Nat.le_of_ble_eq_true rfl) dX7_tell_31 (fun H locs hI => ?_)
        obtain ⟨rfl, rfl, rfl⟩ := so3 hs
        exact C_iret C hI dX7_tell_34
      · have hs := if_f cn hs
        refine lv_iload C.1 C.2.1 dX7_tell_21 (lv_at hl 4 rfl) ?_
        obtain ⟨r_23, hc, hs⟩ := bd_e hs
        refine S_call (h := 2) C (kX7_isDay l _ _ hc) ml_X7_190 st_X7_isDay ini_X7 co_X7_isDay hyX7_isDay rfl ⟨by decide, by decide⟩ hl.1 rfl (Nat.le_of_ble_eq_true rfl) dX7_tell_23 ⟨Nat.le_refl 0, Nat.le_refl 0, Nat.le_refl _, Nat.le_refl _⟩ ?_
        refine lv_if_ne (tgt := 35) C.1 C.2.1 dX7_tell_26 (by decide) (fun cn => ?_) (fun cn => ?_)
        · have hs := if_f cn hs
          refine lv_aload_n C.1 C.2.1 dX7_tell_35 rfl (lv_at hl 0 rfl) ?_
          refine cg_X7_0 C hI dX7_tell_36 ?_
          refine cg_X7_16 C hI dX7_tell_39 ?_
          refine lv_iload_n C.1 C.2.1 dX7_tell_42 rfl (lv_at hl 1 rfl) ?_
          refine lv_bipush (v := 8) C.1 C.2.1 dX7_tell_43 (by decide) ?_
          refine lv_imul C.1 C.2.1 dX7_tell_45 ?_
          refine lv_iload_n C.1 C.2.1 dX7_tell_46 rfl (lv_at hl 3 rfl) ?_
          refine lv_iadd C.1 C.2.1 dX7_tell_47 ?_
          obtain ⟨hk, hs⟩ := ck_e hs
          refine ca_16 C hI hk dX7_tell_48 ?_
          refine lv_iload C.1 C.2.1 dX7_tell_49 (lv_at hl 4 rfl) ?_
          refine lv_icmp_le (tgt := 61) C.1 C.2.1 dX7_tell_51 (by decide) (fun cn => ?_) (fun cn => ?_)
          · have hs := if_t cn hs
            refine lv_aload_n C.1 C.2.1 dX7_tell_61 rfl (lv_at hl 0 rfl) ?_
            refine cg_X7_0 C hI dX7_tell_62 ?_
            refine lv_iload_n C.1 C.2.1 dX7_tell_65 rfl (lv_at hl 2 rfl) ?_
            refine lv_iload_n C.1 C.2.1 dX7_tell_66 rfl (lv_at hl 3 rfl) ?_
            refine lv_iload C.1 C.2.1 dX7_tell_67 (lv_at hl 4 rfl) ?_
            obtain ⟨A, hc, hs⟩ := bd_e hs
            refine C_call C hI (kX4_learn l D cy P0 q z tl xx _ _ _ _ _ _ _ _ hc) (rv_X4 hI) ml_X7_276 im_X4_learn se_X4_learn ini_X4 co_X4_learn hyX4_learn rfl ⟨by decide, by decide⟩ hl.1 rfl (Nat.le_of_ble_eq_true rfl) dX7_tell_69 (fun H locs hI => ?_)
            refine lv_aload_n C.1 C.2.1 dX7_tell_72 rfl (lv_at hl 0 rfl) ?_
            refine lv_iconst (v := 0) C.1 C.2.1 dX7_tell_73 (by decide) ?_
            obtain ⟨⟨r_74, I⟩, hc, hs⟩ := bd_e hs
            refine C_call C hI (kX7_accept l D cy P0 q z tl xx _ _ _ _ _ _ _ hc) (rv_X7 hI) ml_X7_77 im_X7_accept se_X7_accept ini_X7 co_X7_accept hyX7_accept rfl ⟨by decide, by decide⟩ hl.1 rfl (Nat.le_of_ble_eq_true rfl) dX7_tell_74 (fun H locs hI => ?_)
            obtain ⟨rfl, rfl, rfl⟩ := so3 hs
            exact C_iret C hI dX7_tell_77
          · have hs := if_f cn hs
            refine lv_aload_n C.1 C.2.1 dX7_tell_54 rfl (lv_at hl 0 rfl) ?_
            refine lv_bipush (v := -3) C.1 C.2.1 dX7_tell_55 (by decide) ?_
            obtain ⟨⟨r_57, I⟩, hc, hs⟩ := bd_e hs
            refine C_call C hI (kX7_refuse l D cy P0 q z tl xx _ _ _ _ _ _ _ hc) (rv_X7 hI) ml_X7_70 im_X7_refuse se_X7_refuse ini_X7 co_X7_refuse hyX7_refuse rfl ⟨by decide, by decide⟩ hl.1 rfl (Nat.le_of_ble_eq_true rfl) dX7_tell_57 (fun H locs hI => ?_)
            obtain ⟨rfl, rfl, rfl⟩ := so3 hs
            exact C_iret C hI dX7_tell_60
        · have hs := if_t cn hs
          refine lv_aload_n C.1 C.2.1 dX7_tell_29 rfl (lv_at hl 0 rfl) ?_
          refine lv_iconst (v := -1) C.1 C.2.1 dX7_tell_30 (by decide) ?_
          obtain ⟨⟨r_31, I⟩, hc, hs⟩ := bd_e hs
          refine C_call C hI (kX7_refuse l D cy P0 q z tl xx _ _ _ _ _ _ _ hc) (rv_X7 hI) ml_X7_70 im_X7_refuse se_X7_refuse ini_X7 co_X7_refuse hyX7_refuse rfl ⟨by decide, by decide⟩ hl.1 rfl (Nat.le_of_ble_eq_true rfl) dX7_tell_31 (fun H locs hI => ?_)
          obtain ⟨rfl, rfl, rfl⟩ := so3 hs
          exact C_iret C hI dX7_tell_34

def lX7_owed_33 : Nat → Int32 → Int32 → Int32 → Int32 → Int32 → (Nat → Int32) → (Nat → Int64) → (Nat → Nat → Int32) → (Nat → Nat → Int64) → Option (Int32)
  | 0, _, _, _, _, _, _, _, _, _ => none
  | n + 1, x1, x2, x3, x4, x5, I, J, A, B =>
    if (8 : Int32) ≤ x5 then
    (some x4)
    else
    ck (inB ((x1 * (8 : Int32)) + x5) 64) <|
    if (A 16 (ix ((x1 * (8 : Int32)) + x5))) ≤ x2 then
    (gv (x5 + 1) fun x5_78 =>
    lX7_owed_33 n x1 x2 x3 x4 x5_78 I J A B)
    else
    (sX4_firstOfOthers x1 x5 I J A B).bind fun r_66 =>
    if (x2 - x3) < r_66 then
    (gv (x5 + 1) fun x5_78 =>
    lX7_owed_33 n x1 x2 x3 x4 x5_78 I J A B)
    else
    gv (x4 + 1) fun x4_75 =>
    gv (x5 + 1) fun x5_78 =>
    lX7_owed_33 n x1 x2 x3 x4_75 x5_78 I J A B
def sX7_owed (x1 : Int32) (x2 : Int32) (x3 : Int32) (I : Nat → Int32) (J : Nat → Int64) (A : Nat → Nat → Int32) (B : Nat → Nat → Int64) : Option ((Int32)) :=
(sX7_isPerson x1).bind fun r_1 =>
if r_1 = 0 then
(some (-1 : Int32))
else
(sX7_isDay x2).bind fun r_8 =>
if r_8 = 0 then
(some (-1 : Int32))
else
(sX7_isWithin x3 (0 : Int32) (9999 : Int32)).bind fun r_19 =>
if r_19 = 0 then
(some (-1 : Int32))
else
(lX7_owed_33 FU x1 x2 x3 (0 : Int32) (0 : Int32) I J A B).bind fun x4_33 =>
some x4_33
set_option maxRecDepth 100000 in
set_option maxHeartbeats 8000000 in
theorem kX7_owed (l : Launch) (D : va_G) (cy : Nat → ClassId) (P0 : Nat → Prop) (q z : Nat → Nat) (tl : va_W) (xx : (Nat → Option Nat) × (Nat → Option Nat) × Nat) (x1 : Int32) (x2 : Int32) (x3 : Int32) (I : Nat → Int32) (J : Nat → Int64) (A : Nat → Nat → Int32) (B : Nat → Nat → Int64) (r : Int32) (hs : sX7_owed x1 x2 x3 I J A B = some r) : McC l yX7_owed cX7_owed 6 (some .int) 2 [.ref (q 99), .int x1, .int x2, .int x3] D cy P0 q z tl xx I J A B (some (.int r)) xx I J A B := by
  refine C_start rfl (Nat.le_of_ble_eq_true rfl) ?_
  intro p e s m args below meth c H locs C hI ls hl
  have hl : lv_has ls 6 [(0, .ref (q 99)), (1, .int x1), (2, .int x2), (3, .int x3)] := hl
  rw [sX7_owed] at hs
  refine lv_iload_n C.1 C.2.1 dX7_owed_0 rfl (lv_at hl 1 rfl) ?_
  obtain ⟨r_1, hc, hs⟩ := bd_e hs
  refine S_call (h := 2) C (kX7_isPerson l _ _ hc) ml_X7_197 st_X7_isPerson ini_X7 co_X7_isPerson hyX7_isPerson rfl ⟨by decide, by decide⟩ hl.1 rfl (Nat.le_of_ble_eq_true rfl) dX7_owed_1 ⟨Nat.le_refl 0, Nat.le_refl 0, Nat.le_refl _, Nat.le_refl _⟩ ?_
  refine lv_if_eq (tgt := 25) C.1 C.2.1 dX7_owed_4 (by decide) (fun cn => ?_) (fun cn => ?_)
  · have hs := if_t cn hs
    refine lv_iconst (v := -1) C.1 C.2.1 dX7_owed_25 (by decide) ?_
    obtain rfl := Option.some.inj hs
    exact C_iret C hI dX7_owed_26
  · have hs := if_f cn hs
    refine lv_iload_n C.1 C.2.1 dX7_owed_7 rfl (lv_at hl 2 rfl) ?_
    obtain ⟨r_8, hc, hs⟩ := bd_e hs
    refine S_call (h := 2) C (kX7_isDay l _ _ hc) ml_X7_190 st_X7_isDay ini_X7 co_X7_isDay hyX7_isDay rfl ⟨by decide, by decide⟩ hl.1 rfl (Nat.le_of_ble_eq_true rfl) dX7_owed_8 ⟨Nat.le_refl 0, Nat.le_refl 0, Nat.le_refl _, Nat.le_refl _⟩ ?_
    refine lv_if_eq (tgt := 25) C.1 C.2.1 dX7_owed_11 (by decide) (fun cn => ?_) (fun cn => ?_)
    · have hs := if_t cn hs
      refine lv_iconst (v := -1) C.1 C.2.1 dX7_owed_25 (by decide) ?_
      obtain rfl := Option.some.inj hs
      exact C_iret C hI dX7_owed_26
    · have hs := if_f cn hs
      refine lv_iload_n C.1 C.2.1 dX7_owed_14 rfl (lv_at hl 3 rfl) ?_
      refine lv_iconst (v := 0) C.1 C.2.1 dX7_owed_15 (by decide) ?_
      refine lv_sipush (v := 9999) C.1 C.2.1 dX7_owed_16 (by decide) ?_
      obtain ⟨r_19, hc, hs⟩ := bd_e hs
      refine S_call (h := 2) C (kX7_isWithin l _ _ _ _ hc) ml_X7_80 st_X7_isWithin ini_X7 co_X7_isWithin hyX7_isWithin rfl ⟨by decide, by decide⟩ hl.1 rfl (Nat.le_of_ble_eq_true rfl) dX7_owed_19 ⟨Nat.le_refl 0, Nat.le_refl 0, Nat.le_refl _, Nat.le_refl _⟩ ?_
      refine lv_if_ne (tgt := 27) C.1 C.2.1 dX7_owed_22 (by decide) (fun cn => ?_) (fun cn => ?_)
      · have hs := if_f cn hs
        refine lv_iconst (v := 0) C.1 C.2.1 dX7_owed_27 (by decide) ?_
        refine lv_istore (lv' := [(4, .int (0 : Int32)), (0, .ref (q 99)), (1, .int x1), (2, .int x2), (3, .int x3)]) C.1 C.2.1 dX7_owed_28 hl (by decide) rfl (fun ls hl => ?_)
        refine lv_iconst (v := 0) C.1 C.2.1 dX7_owed_30 (by decide) ?_
        refine lv_istore (lv' := [(5, .int (0 : Int32)), (4, .int (0 : Int32)), (0, .ref (q 99)), (1, .int x1), (2, .int x2), (3, .int x3)]) C.1 C.2.1 dX7_owed_31 hl (by decide) rfl (fun ls hl => ?_)
        have KL_33 : ∀ (n : Nat) (x1 : Int32) (x2 : Int32) (x3 : Int32) (x4 : Int32) (x5 : Int32) (I : Nat → Int32) (J : Nat → Int64) (A : Nat → Nat → Int32) (B : Nat → Nat → Int64) (o : Int32) (Q : State → Prop) (H : Heap) (locs : List Loc) (ls : Array Slot), lX7_owed_33 n x1 x2 x3 x4 x5 I J A B = some o → CI D cy s P0 s.heap H locs q z tl xx I J A B → lv_has ls 6 [(0, .ref (q 99)), (1, .int x1), (2, .int x2), (3, .int x3), (4, .int x4), (5, .int x5)] → (∀ (o4_0 : Int32) (H : Heap) (locs : List Loc) (ls : Array Slot), o = o4_0 → CI D cy s P0 s.heap H locs q z tl xx I J A B → lv_has ls 6 [(4, .int o4_0)] → W p l e (rmL 2) s m args below meth c H locs 0 0 Q (F0 m 84 ls [])) → W p l e (rmL 2) s m args below meth c H locs 0 0 Q (F0 m 33 ls []) := by
          intro n; induction n with
          | zero => intro x1 x2 x3 x4 x5 I J A B o Q H locs ls hs; rw [lX7_owed_33] at hs; cases hs
          | succ n ih =>
            intro x1 x2 x3 x4 x5 I J A B o Q H locs ls hs hI hl kk0
            rw [lX7_owed_33] at hs
            refine lv_iload C.1 C.2.1 dX7_owed_33 (lv_at hl 5 rfl) ?_
            refine lv_bipush (v := 8) C.1 C.2.1 dX7_owed_35 (by decide) ?_
            refine lv_icmp_ge (tgt := 84) C.1 C.2.1 dX7_owed_37 (by decide) (fun cn => ?_) (fun cn => ?_)
            · have hs := if_t cn hs
              have eo := (Option.some.inj hs).symm
              exact kk0 _ _ _ _ eo hI (lv_sub hl [4] rfl)
            · have hs := if_f cn hs
              refine lv_aload_n C.1 C.2.1 dX7_owed_40 rfl (lv_at hl 0 rfl) ?_
              refine cg_X7_0 C hI dX7_owed_41 ?_
              refine cg_X7_16 C hI dX7_owed_44 ?_
              refine lv_iload_n C.1 C.2.1 dX7_owed_47 rfl (lv_at hl 1 rfl) ?_
              refine lv_bipush (v := 8) C.1 C.2.1 dX7_owed_48 (by decide) ?_
              refine lv_imul C.1 C.2.1 dX7_owed_50 ?_
              refine lv_iload C.1 C.2.1 dX7_owed_51 (lv_at hl 5 rfl) ?_
              refine lv_iadd C.1 C.2.1 dX7_owed_53 ?_
              obtain ⟨hk, hs⟩ := ck_e hs
              refine ca_16 C hI hk dX7_owed_54 ?_
              refine lv_iload_n C.1 C.2.1 dX7_owed_55 rfl (lv_at hl 2 rfl) ?_
              refine lv_icmp_le (tgt := 78) C.1 C.2.1 dX7_owed_56 (by decide) (fun cn => ?_) (fun cn => ?_)
              · have hs := if_t cn hs
                obtain ⟨x5_78, ex5_78⟩ : ∃ y : Int32, y = (x5 + 1) := ⟨_, rfl⟩
                have hs := gv_at ex5_78 hs
                refine lv_iinc (v := x5_78) (lv' := [(5, .int x5_78), (0, .ref (q 99)), (1, .int x1), (2, .int x2), (3, .int x3), (4, .int x4)]) C.1 C.2.1 dX7_owed_78 hl (k := 5) rfl (by rw [ex5_78]; rfl) (by decide) rfl (fun ls hl => ?_)
                refine lv_goto (tgt := 33) C.1 C.2.1 dX7_owed_81 (by decide) ?_
                exact ih _ _ _ _ _ _ _ _ _ _ _ _ _ _ hs hI (lv_sub hl [1, 2, 3, 4, 5, 0] rfl) kk0
              · have hs := if_f cn hs
                refine lv_aload_n C.1 C.2.1 dX7_owed_59 rfl (lv_at hl 0 rfl) ?_
                refine cg_X7_0 C hI dX7_owed_60 ?_
                refine lv_iload_n C.1 C.2.1 dX7_owed_63 rfl (lv_at hl 1 rfl) ?_
                refine lv_iload C.1 C.2.1 dX7_owed_64 (lv_at hl 5 rfl) ?_
                obtain ⟨r_66, hc, hs⟩ := bd_e hs
                refine C_call C hI (kX4_firstOfOthers l D cy P0 q z tl xx _ _ _ _ _ _ _ hc) (rv_X4 hI) ml_X7_283 im_X4_firstOfOthers se_X4_firstOfOthers ini_X4 co_X4_firstOfOthers hyX4_firstOfOthers rfl ⟨by decide, by decide⟩ hl.1 rfl (Nat.le_of_ble_eq_true rfl) dX7_owed_66 (fun H locs hI => ?_)
                refine lv_iload_n C.1 C.2.1 dX7_owed_69 rfl (lv_at hl 2 rfl) ?_
                refine lv_iload_n C.1 C.2.1 dX7_owed_70 rfl (lv_at hl 3 rfl) ?_
                refine lv_isub C.1 C.2.1 dX7_owed_71 ?_
                refine lv_icmp_gt (tgt := 78) C.1 C.2.1 dX7_owed_72 (by decide) (fun cn => ?_) (fun cn => ?_)
                · have hs := if_t cn hs
                  obtain ⟨x5_78, ex5_78⟩ : ∃ y : Int32, y = (x5 + 1) := ⟨_, rfl⟩
                  have hs := gv_at ex5_78 hs
                  refine lv_iinc (v := x5_78) (lv' := [(5, .int x5_78), (0, .ref (q 99)), (1, .int x1), (2, .int x2), (3, .int x3), (4, .int x4)]) C.1 C.2.1 dX7_owed_78 hl (k := 5) rfl (by rw [ex5_78]; rfl) (by decide) rfl (fun ls hl => ?_)
                  refine lv_goto (tgt := 33) C.1 C.2.1 dX7_owed_81 (by decide) ?_
                  exact ih _ _ _ _ _ _ _ _ _ _ _ _ _ _ hs hI (lv_sub hl [1, 2, 3, 4, 5, 0] rfl) kk0
                · have hs := if_f cn hs
                  obtain ⟨x4_75, ex4_75⟩ : ∃ y : Int32, y = (x4 + 1) := ⟨_, rfl⟩
                  have hs := gv_at ex4_75 hs
                  refine lv_iinc (v := x4_75) (lv' := [(4, .int x4_75), (0, .ref (q 99)), (1, .int x1), (2, .int x2), (3, .int x3), (5, .int x5)]) C.1 C.2.1 dX7_owed_75 hl (k := 4) rfl (by rw [ex4_75]; rfl) (by decide) rfl (fun ls hl => ?_)
                  obtain ⟨x5_78, ex5_78⟩ : ∃ y : Int32, y = (x5 + 1) := ⟨_, rfl⟩
                  have hs := gv_at ex5_78 hs
                  refine lv_iinc (v := x5_78) (lv' := [(5, .int x5_78), (4, .int x4_75), (0, .ref (q 99)), (1, .int x1), (2, .int x2), (3, .int x3)]) C.1 C.2.1 dX7_owed_78 hl (k := 5) rfl (by rw [ex5_78]; rfl) (by decide) rfl (fun ls hl => ?_)
                  refine lv_goto (tgt := 33) C.1 C.2.1 dX7_owed_81 (by decide) ?_
                  exact ih _ _ _ _ _ _ _ _ _ _ _ _ _ _ hs hI (lv_sub hl [2, 3, 4, 5, 1, 0] rfl) kk0
        obtain ⟨x4_33, hL, hs⟩ := bd_e hs
        refine KL_33 FU _ _ _ _ _ _ _ _ _ _ _ _ _ _ hL hI (lv_sub hl [2, 3, 4, 5, 1, 0] rfl) (fun z0 H locs ls eo hI hl => ?_)
        subst eo
        refine lv_iload C.1 C.2.1 dX7_owed_84 (lv_at hl 0 rfl) ?_
        obtain rfl := Option.some.inj hs
        exact C_iret C hI dX7_owed_86
      · have hs := if_t cn hs
        refine lv_iconst (v := -1) C.1 C.2.1 dX7_owed_25 (by decide) ?_
        obtain rfl := Option.some.inj hs
        exact C_iret C hI dX7_owed_26

def sX7_street (x1 : Int32) (x2 : Int32) (x3 : Int32) (I : Nat → Int32) (J : Nat → Int64) (A : Nat → Nat → Int32) (B : Nat → Nat → Int64) : Option ((Int32) × (Nat → Int32) × (Nat → Nat → Int32)) :=
(sX7_isWay x1).bind fun r_1 =>
if r_1 = 0 then
((sX7_refuse (-1 : Int32) I J A B).bind fun (r_30, I) =>
some (r_30, I, A))
else
(sX7_isWithin x2 (1 : Int32) (20 : Int32)).bind fun r_11 =>
if r_11 = 0 then
((sX7_refuse (-1 : Int32) I J A B).bind fun (r_30, I) =>
some (r_30, I, A))
else
(sX7_isWithin x3 (0 : Int32) (10000 : Int32)).bind fun r_22 =>
if r_22 = 0 then
((sX7_refuse (-1 : Int32) I J A B).bind fun (r_30, I) =>
some (r_30, I, A))
else
(sX5_isFull 2  I J A B).bind fun r_41 =>
if r_41 = 0 then
((sX5_open 2  I J A B).bind fun I =>
(sX5_put 2 (0 : Int32) x1 I J A B).bind fun A =>
(sX5_put 2 (1 : Int32) x2 I J A B).bind fun A =>
(sX5_put 2 (2 : Int32) x3 I J A B).bind fun A =>
(sX7_accept ((I 38) - (1 : Int32)) I J A B).bind fun (r_113, I) =>
some (r_113, I, A))
else
(sX7_refuse (-5 : Int32) I J A B).bind fun (r_50, I) =>
some (r_50, I, A)
set_option maxRecDepth 100000 in
set_option maxHeartbeats 8000000 in
theorem kX7_street (l : Launch) (D : va_G) (cy : Nat → ClassId) (P0 : Nat → Prop) (q z : Nat → Nat) (tl : va_W) (xx : (Nat → Option Nat) × (Nat → Option Nat) × Nat) (x1 : Int32) (x2 : Int32) (x3 : Int32) (I : Nat → Int32) (J : Nat → Int64) (A : Nat → Nat → Int32) (B : Nat → Nat → Int64) (r : Int32) (I2 : Nat → Int32) (A2 : Nat → Nat → Int32) (hs : sX7_street x1 x2 x3 I J A B = some (r, I2, A2)) : McC l yX7_street cX7_street 4 (some .int) 2 [.ref (q 99), .int x1, .int x2, .int x3] D cy P0 q z tl xx I J A B (some (.int r)) xx I2 J A2 B := by
  refine C_start rfl (Nat.le_of_ble_eq_true rfl) ?_
  intro p e s m args below meth c H locs C hI ls hl
  have hl : lv_has ls 4 [(0, .ref (q 99)), (1, .int x1), (2, .int x2), (3, .int x3)] := hl
  rw [sX7_street] at hs
  refine lv_iload_n C.1 C.2.1 dX7_street_0 rfl (lv_at hl 1 rfl) ?_
  obtain ⟨r_1, hc, hs⟩ := bd_e hs
  refine S_call (h := 2) C (kX7_isWay l _ _ hc) ml_X7_100 st_X7_isWay ini_X7 co_X7_isWay hyX7_isWay rfl ⟨by decide, by decide⟩ hl.1 rfl (Nat.le_of_ble_eq_true rfl) dX7_street_1 ⟨Nat.le_refl 0, Nat.le_refl 0, Nat.le_refl _, Nat.le_refl _⟩ ?_
  refine lv_if_eq (tgt := 28) C.1 C.2.1 dX7_street_4 (by decide) (fun cn => ?_) (fun cn => ?_)
  · have hs := if_t cn hs
    refine lv_aload_n C.1 C.2.1 dX7_street_28 rfl (lv_at hl 0 rfl) ?_
    refine lv_iconst (v := -1) C.1 C.2.1 dX7_street_29 (by decide) ?_
    obtain ⟨⟨r_30, I⟩, hc, hs⟩ := bd_e hs
    refine C_call C hI (kX7_refuse l D cy P0 q z tl xx _ _ _ _ _ _ _ hc) (rv_X7 hI) ml_X7_70 im_X7_refuse se_X7_refuse ini_X7 co_X7_refuse hyX7_refuse rfl ⟨by decide, by decide⟩ hl.1 rfl (Nat.le_of_ble_eq_true rfl) dX7_street_30 (fun H locs hI => ?_)
    obtain ⟨rfl, rfl, rfl⟩ := so3 hs
    exact C_iret C hI dX7_street_33
  · have hs := if_f cn hs
    refine lv_iload_n C.1 C.2.1 dX7_street_7 rfl (lv_at hl 2 rfl) ?_
    refine lv_iconst (v := 1) C.1 C.2.1 dX7_street_8 (by decide) ?_
    refine lv_bipush (v := 20) C.1 C.2.1 dX7_street_9 (by decide) ?_
    obtain ⟨r_11, hc, hs⟩ := bd_e hs
    refine S_call (h := 2) C (kX7_isWithin l _ _ _ _ hc) ml_X7_80 st_X7_isWithin ini_X7 co_X7_isWithin hyX7_isWithin rfl ⟨by decide, by decide⟩ hl.1 rfl (Nat.le_of_ble_eq_true rfl) dX7_street_11 ⟨Nat.le_refl 0, Nat.le_refl 0, Nat.le_refl _, Nat.le_refl _⟩ ?_
    refine lv_if_eq (tgt := 28) C.1 C.2.1 dX7_street_14 (by decide) (fun cn => ?_) (fun cn => ?_)
    · have hs := if_t cn hs
      refine lv_aload_n C.1 C.2.1 dX7_street_28 rfl (lv_at hl 0 rfl) ?_
      refine lv_iconst (v := -1) C.1 C.2.1 dX7_street_29 (by decide) ?_
      obtain ⟨⟨r_30, I⟩, hc, hs⟩ := bd_e hs
      refine C_call C hI (kX7_refuse l D cy P0 q z tl xx _ _ _ _ _ _ _ hc) (rv_X7 hI) ml_X7_70 im_X7_refuse se_X7_refuse ini_X7 co_X7_refuse hyX7_refuse rfl ⟨by decide, by decide⟩ hl.1 rfl (Nat.le_of_ble_eq_true rfl) dX7_street_30 (fun H locs hI => ?_)
      obtain ⟨rfl, rfl, rfl⟩ := so3 hs
      exact C_iret C hI dX7_street_33
    · have hs := if_f cn hs
      refine lv_iload_n C.1 C.2.1 dX7_street_17 rfl (lv_at hl 3 rfl) ?_
      refine lv_iconst (v := 0) C.1 C.2.1 dX7_street_18 (by decide) ?_
      refine lv_sipush (v := 10000) C.1 C.2.1 dX7_street_19 (by decide) ?_
      obtain ⟨r_22, hc, hs⟩ := bd_e hs
      refine S_call (h := 2) C (kX7_isWithin l _ _ _ _ hc) ml_X7_80 st_X7_isWithin ini_X7 co_X7_isWithin hyX7_isWithin rfl ⟨by decide, by decide⟩ hl.1 rfl (Nat.le_of_ble_eq_true rfl) dX7_street_22 ⟨Nat.le_refl 0, Nat.le_refl 0, Nat.le_refl _, Nat.le_refl _⟩ ?_
      refine lv_if_ne (tgt := 34) C.1 C.2.1 dX7_street_25 (by decide) (fun cn => ?_) (fun cn => ?_)
      · have hs := if_f cn hs
        refine lv_aload_n C.1 C.2.1 dX7_street_34 rfl (lv_at hl 0 rfl) ?_
        refine cg_X7_0 C hI dX7_street_35 ?_
        refine cg_X7_19 C hI dX7_street_38 ?_
        obtain ⟨r_41, hc, hs⟩ := bd_e hs
        refine C_call C hI (kX5_isFull l D cy P0 q z tl xx 2 (by decide) _ _ _ _ _ hc) (rv_X5 hI 2 (by decide)) ml_X7_108 im_X5_isFull se_X5_isFull ini_X5 co_X5_isFull hyX5_isFull rfl ⟨by decide, by decide⟩ hl.1 rfl (Nat.le_of_ble_eq_true rfl) dX7_street_41 (fun H locs hI => ?_)
        refine lv_if_eq (tgt := 54) C.1 C.2.1 dX7_street_44 (by decide) (fun cn => ?_) (fun cn => ?_)
        · have hs := if_t cn hs
          refine lv_aload_n C.1 C.2.1 dX7_street_54 rfl (lv_at hl 0 rfl) ?_
          refine cg_X7_0 C hI dX7_street_55 ?_
          refine cg_X7_19 C hI dX7_street_58 ?_
          obtain ⟨I, hc, hs⟩ := bd_e hs
          refine C_call C hI (kX5_open l D cy P0 q z tl xx 2 (by decide) _ _ _ _ _ hc) (rv_X5 hI 2 (by decide)) ml_X7_114 im_X5_open se_X5_open ini_X5 co_X5_open hyX5_open rfl ⟨by decide, by decide⟩ hl.1 rfl (Nat.le_of_ble_eq_true rfl) dX7_street_61 (fun H locs hI => ?_)
          refine lv_aload_n C.1 C.2.1 dX7_street_64 rfl (lv_at hl 0 rfl) ?_
          refine cg_X7_0 C hI dX7_street_65 ?_
          refine cg_X7_19 C hI dX7_street_68 ?_
          refine lv_iconst (v := 0) C.1 C.2.1 dX7_street_71 (by decide) ?_
          refine lv_iload_n C.1 C.2.1 dX7_street_72 rfl (lv_at hl 1 rfl) ?_
          obtain ⟨A, hc, hs⟩ := bd_e hs
          refine C_call C hI (kX5_put l D cy P0 q z tl xx 2 (by decide) _ _ _ _ _ _ _ hc) (rv_X5 hI 2 (by decide)) ml_X7_117 im_X5_put se_X5_put ini_X5 co_X5_put hyX5_put rfl ⟨by decide, by decide⟩ hl.1 rfl (Nat.le_of_ble_eq_true rfl) dX7_street_73 (fun H locs hI => ?_)
          refine lv_aload_n C.1 C.2.1 dX7_street_76 rfl (lv_at hl 0 rfl) ?_
          refine cg_X7_0 C hI dX7_street_77 ?_
          refine cg_X7_19 C hI dX7_street_80 ?_
          refine lv_iconst (v := 1) C.1 C.2.1 dX7_street_83 (by decide) ?_
          refine lv_iload_n C.1 C.2.1 dX7_street_84 rfl (lv_at hl 2 rfl) ?_
          obtain ⟨A, hc, hs⟩ := bd_e hs
          refine C_call C hI (kX5_put l D cy P0 q z tl xx 2 (by decide) _ _ _ _ _ _ _ hc) (rv_X5 hI 2 (by decide)) ml_X7_117 im_X5_put se_X5_put ini_X5 co_X5_put hyX5_put rfl ⟨by decide, by decide⟩ hl.1 rfl (Nat.le_of_ble_eq_true rfl) dX7_street_85 (fun H locs hI => ?_)
          refine lv_aload_n C.1 C.2.1 dX7_street_88 rfl (lv_at hl 0 rfl) ?_
          refine cg_X7_0 C hI dX7_street_89 ?_
          refine cg_X7_19 C hI dX7_street_92 ?_
          refine lv_iconst (v := 2) C.1 C.2.1 dX7_street_95 (by decide) ?_
          refine lv_iload_n C.1 C.2.1 dX7_street_96 rfl (lv_at hl 3 rfl) ?_
          obtain ⟨A, hc, hs⟩ := bd_e hs
          refine C_call C hI (kX5_put l D cy P0 q z tl xx 2 (by decide) _ _ _ _ _ _ _ hc) (rv_X5 hI 2 (by decide)) ml_X7_117 im_X5_put se_X5_put ini_X5 co_X5_put hyX5_put rfl ⟨by decide, by decide⟩ hl.1 rfl (Nat.le_of_ble_eq_true rfl) dX7_street_97 (fun H locs hI => ?_)
          refine lv_aload_n C.1 C.2.1 dX7_street_100 rfl (lv_at hl 0 rfl) ?_
          refine lv_aload_n C.1 C.2.1 dX7_street_101 rfl (lv_at hl 0 rfl) ?_
          refine cg_X7_0 C hI dX7_street_102 ?_
          refine cg_X7_19 C hI dX7_street_105 ?_
          refine cg_X7_38 C hI dX7_street_108 ?_
          refine lv_iconst (v := 1) C.1 C.2.1 dX7_street_111 (by decide) ?_
          refine lv_isub C.1 C.2.1 dX7_street_112 ?_
          obtain ⟨⟨r_113, I⟩, hc, hs⟩ := bd_e hs
          refine C_call C hI (kX7_accept l D cy P0 q z tl xx _ _ _ _ _ _ _ hc) (rv_X7 hI) ml_X7_77 im_X7_accept se_X7_accept ini_X7 co_X7_accept hyX7_accept rfl ⟨by decide, by decide⟩ hl.1 rfl (Nat.le_of_ble_eq_true rfl) dX7_street_113 (fun H locs hI => ?_)
          obtain ⟨rfl, rfl, rfl⟩ := so3 hs
          exact C_iret C hI dX7_street_116
        · have hs := if_f cn hs
          refine lv_aload_n C.1 C.2.1 dX7_street_47 rfl (lv_at hl 0 rfl) ?_
          refine lv_bipush (v := -5) C.1 C.2.1 dX7_street_48 (by decide) ?_
          obtain ⟨⟨r_50, I⟩, hc, hs⟩ := bd_e hs
          refine C_call C hI (kX7_refuse l D cy P0 q z tl xx _ _ _ _ _ _ _ hc) (rv_X7 hI) ml_X7_70 im_X7_refuse se_X7_refuse ini_X7 co_X7_refuse hyX7_refuse rfl ⟨by decide, by decide⟩ hl.1 rfl (Nat.le_of_ble_eq_true rfl) dX7_street_50 (fun H locs hI => ?_)
          obtain ⟨rfl, rfl, rfl⟩ := so3 hs
          exact C_iret C hI dX7_street_53
      · have hs := if_t cn hs
        refine lv_aload_n C.1 C.2.1 dX7_street_28 rfl (lv_at hl 0 rfl) ?_
        refine lv_iconst (v := -1) C.1 C.2.1 dX7_street_29 (by decide) ?_
        obtain ⟨⟨r_30, I⟩, hc, hs⟩ := bd_e hs
        refine C_call C hI (kX7_refuse l D cy P0 q z tl xx _ _ _ _ _ _ _ hc) (rv_X7 hI) ml_X7_70 im_X7_refuse se_X7_refuse ini_X7 co_X7_refuse hyX7_refuse rfl ⟨by decide, by decide⟩ hl.1 rfl (Nat.le_of_ble_eq_true rfl) dX7_street_30 (fun H locs hI => ?_)
        obtain ⟨rfl, rfl, rfl⟩ := so3 hs
        exact C_iret C hI dX7_street_33

def lX7_row_97 : Nat → Int32 → Int32 → Int32 → (Nat → Int32) → (Nat → Int64) → (Nat → Nat → Int32) → (Nat → Nat → Int64) → Option ((Nat → Nat → Int32))
  | 0, _, _, _, _, _, _, _ => none
  | n + 1, x1, x2, x3, I, J, A, B =>
    if x1 ≤ x3 then
    (some A)
    else
    ck (inB (x3 + (1 : Int32)) 400) <|
    gv (fun (y0_j127 : Int32) (A : Nat → Nat → Int32) =>
    (sX5_put 3 ((2 : Int32) + x3) y0_j127 I J A B).bind fun A =>
    gv (x3 + 1) fun x3_142 =>
    lX7_row_97 n x1 y0_j127 x3_142 I J A B) fun k_127 =>
    if (A 6 (ix (x3 + (1 : Int32)))) ≤ (100 : Int32) then
    (ck (inB (x3 + (1 : Int32)) 400) <|
    k_127 (A 6 (ix (x3 + (1 : Int32)))) A)
    else
    k_127 x2 A
def sX7_row (I : Nat → Int32) (J : Nat → Int64) (A : Nat → Nat → Int32) (B : Nat → Nat → Int64) : Option ((Int32) × (Nat → Int32) × (Nat → Nat → Int32)) :=
(sX7_takeTape  I J A B).bind fun (r_1, I) =>
gv (r_1 - (1 : Int32)) fun x1_6 =>
(sX5_isFull 3  I J A B).bind fun r_14 =>
if r_14 = 0 then
((sX7_isWithin x1_6 (1 : Int32) (40 : Int32)).bind fun r_31 =>
if r_31 = 0 then
((sX7_refuse (-6 : Int32) I J A B).bind fun (r_50, I) =>
some (r_50, I, A))
else
if (A 6 (ix (0 : Int32))) ≤ (1 : Int32) then
((sX5_open 3  I J A B).bind fun I =>
(sX5_put 3 (0 : Int32) (A 6 (ix (0 : Int32))) I J A B).bind fun A =>
(sX5_put 3 (1 : Int32) x1_6 I J A B).bind fun A =>
(lX7_row_97 FU x1_6 (0 : Int32) (0 : Int32) I J A B).bind fun A =>
(sX7_accept (I 41) I J A B).bind fun (r_159, I) =>
some (r_159, I, A))
else
(sX7_refuse (-6 : Int32) I J A B).bind fun (r_50, I) =>
some (r_50, I, A))
else
(sX7_refuse (-5 : Int32) I J A B).bind fun (r_23, I) =>
some (r_23, I, A)
set_option maxRecDepth 100000 in
set_option maxHeartbeats 8000000 in
theorem kX7_row (l : Launch) (D : va_G) (cy : Nat → ClassId) (P0 : Nat → Prop) (q z : Nat → Nat) (tl : va_W) (xx : (Nat → Option Nat) × (Nat → Option Nat) × Nat) (I : Nat → Int32) (J : Nat → Int64) (A : Nat → Nat → Int32) (B : Nat → Nat → Int64) (r : Int32) (I2 : Nat → Int32) (A2 : Nat → Nat → Int32) (hs : sX7_row I J A B = some (r, I2, A2)) : McC l yX7_row cX7_row 4 (some .int) 2 [.ref (q 99)] D cy P0 q z tl xx I J A B (some (.int r)) xx I2 J A2 B := by
  refine C_start rfl (Nat.le_of_ble_eq_true rfl) ?_
  intro p e s m args below meth c H locs C hI ls hl
  have hl : lv_has ls 4 [(0, .ref (q 99))] := hl
  rw [sX7_row] at hs
  refine lv_aload_n C.1 C.2.1 dX7_row_0 rfl (lv_at hl 0 rfl) ?_
  obtain ⟨⟨r_1, I⟩, hc, hs⟩ := bd_e hs
  refine C_call C hI (kX7_takeTape l D cy P0 q z tl xx _ _ _ _ _ _ hc) (rv_X7 hI) ml_X7_168 im_X7_takeTape se_X7_takeTape ini_X7 co_X7_takeTape hyX7_takeTape rfl ⟨by decide, by decide⟩ hl.1 rfl (Nat.le_of_ble_eq_true rfl) dX7_row_1 (fun H locs hI => ?_)
  refine lv_iconst (v := 1) C.1 C.2.1 dX7_row_4 (by decide) ?_
  refine lv_isub C.1 C.2.1 dX7_row_5 ?_
  refine lv_topi (fun x1_6 ex1_6 => ?_)
  have hs := gv_at ex1_6 hs
  refine lv_istore_n (lv' := [(1, .int x1_6), (0, .ref (q 99))]) C.1 C.2.1 dX7_row_6 rfl hl (by decide) rfl (fun ls hl => ?_)
  refine lv_aload_n C.1 C.2.1 dX7_row_7 rfl (lv_at hl 1 rfl) ?_
  refine cg_X7_0 C hI dX7_row_8 ?_
  refine cg_X7_20 C hI dX7_row_11 ?_
  obtain ⟨r_14, hc, hs⟩ := bd_e hs
  refine C_call C hI (kX5_isFull l D cy P0 q z tl xx 3 (by decide) _ _ _ _ _ hc) (rv_X5 hI 3 (by decide)) ml_X7_108 im_X5_isFull se_X5_isFull ini_X5 co_X5_isFull hyX5_isFull rfl ⟨by decide, by decide⟩ hl.1 rfl (Nat.le_of_ble_eq_true rfl) dX7_row_14 (fun H locs hI => ?_)
  refine lv_if_eq (tgt := 27) C.1 C.2.1 dX7_row_17 (by decide) (fun cn => ?_) (fun cn => ?_)
  · have hs := if_t cn hs
    refine lv_iload_n C.1 C.2.1 dX7_row_27 rfl (lv_at hl 0 rfl) ?_
    refine lv_iconst (v := 1) C.1 C.2.1 dX7_row_28 (by decide) ?_
    refine lv_bipush (v := 40) C.1 C.2.1 dX7_row_29 (by decide) ?_
    obtain ⟨r_31, hc, hs⟩ := bd_e hs
    refine S_call (h := 2) C (kX7_isWithin l _ _ _ _ hc) ml_X7_80 st_X7_isWithin ini_X7 co_X7_isWithin hyX7_isWithin rfl ⟨by decide, by decide⟩ hl.1 rfl (Nat.le_of_ble_eq_true rfl) dX7_row_31 ⟨Nat.le_refl 0, Nat.le_refl 0, Nat.le_refl _, Nat.le_refl _⟩ ?_
    refine lv_if_eq (tgt := 47) C.1 C.2.1 dX7_row_34 (by decide) (fun cn => ?_) (fun cn => ?_)
    · have hs := if_t cn hs
      refine lv_aload_n C.1 C.2.1 dX7_row_47 rfl (lv_at hl 1 rfl) ?_
      refine lv_bipush (v := -6) C.1 C.2.1 dX7_row_48 (by decide) ?_
      obtain ⟨⟨r_50, I⟩, hc, hs⟩ := bd_e hs
      refine C_call C hI (kX7_refuse l D cy P0 q z tl xx _ _ _ _ _ _ _ hc) (rv_X7 hI) ml_X7_70 im_X7_refuse se_X7_refuse ini_X7 co_X7_refuse hyX7_refuse rfl ⟨by decide, by decide⟩ hl.1 rfl (Nat.le_of_ble_eq_true rfl) dX7_row_50 (fun H locs hI => ?_)
      obtain ⟨rfl, rfl, rfl⟩ := so3 hs
      exact C_iret C hI dX7_row_53
    · have hs := if_f cn hs
      refine lv_aload_n C.1 C.2.1 dX7_row_37 rfl (lv_at hl 1 rfl) ?_
      refine cg_X7_6 C hI dX7_row_38 ?_
      refine lv_iconst (v := 0) C.1 C.2.1 dX7_row_41 (by decide) ?_
      refine ca_6 C hI (by decide) dX7_row_42 ?_
      refine lv_iconst (v := 1) C.1 C.2.1 dX7_row_43 (by decide) ?_
      refine lv_icmp_le (tgt := 54) C.1 C.2.1 dX7_row_44 (by decide) (fun cn => ?_) (fun cn => ?_)
      · have hs := if_t cn hs
        refine lv_aload_n C.1 C.2.1 dX7_row_54 rfl (lv_at hl 1 rfl) ?_
        refine cg_X7_0 C hI dX7_row_55 ?_
        refine cg_X7_20 C hI dX7_row_58 ?_
        obtain ⟨I, hc, hs⟩ := bd_e hs
        refine C_call C hI (kX5_open l D cy P0 q z tl xx 3 (by decide) _ _ _ _ _ hc) (rv_X5 hI 3 (by decide)) ml_X7_114 im_X5_open se_X5_open ini_X5 co_X5_open hyX5_open rfl ⟨by decide, by decide⟩ hl.1 rfl (Nat.le_of_ble_eq_true rfl) dX7_row_61 (fun H locs hI => ?_)
        refine lv_aload_n C.1 C.2.1 dX7_row_64 rfl (lv_at hl 1 rfl) ?_
        refine cg_X7_0 C hI dX7_row_65 ?_
        refine cg_X7_20 C hI dX7_row_68 ?_
        refine lv_iconst (v := 0) C.1 C.2.1 dX7_row_71 (by decide) ?_
        refine lv_aload_n C.1 C.2.1 dX7_row_72 rfl (lv_at hl 1 rfl) ?_
        refine cg_X7_6 C hI dX7_row_73 ?_
        refine lv_iconst (v := 0) C.1 C.2.1 dX7_row_76 (by decide) ?_
        refine ca_6 C hI (by decide) dX7_row_77 ?_
        obtain ⟨A, hc, hs⟩ := bd_e hs
        refine C_call C hI (kX5_put l D cy P0 q z tl xx 3 (by decide) _ _ _ _ _ _ _ hc) (rv_X5 hI 3 (by decide)) ml_X7_117 im_X5_put se_X5_put ini_X5 co_X5_put hyX5_put rfl ⟨by decide, by decide⟩ hl.1 rfl (Nat.le_of_ble_eq_true rfl) dX7_row_78 (fun H locs hI => ?_)
        refine lv_aload_n C.1 C.2.1 dX7_row_81 rfl (lv_at hl 1 rfl) ?_
        refine cg_X7_0 C hI dX7_row_82 ?_
        refine cg_X7_20 C hI dX7_row_85 ?_
        refine lv_iconst (v := 1) C.1 C.2.1 dX7_row_88 (by decide) ?_
        refine lv_iload_n C.1 C.2.1 dX7_row_89 rfl (lv_at hl 0 rfl) ?_
        obtain ⟨A, hc, hs⟩ := bd_e hs
        refine C_call C hI (kX5_put l D cy P0 q z tl xx 3 (by decide) _ _ _ _ _ _ _ hc) (rv_X5 hI 3 (by decide)) ml_X7_117 im_X5_put se_X5_put ini_X5 co_X5_put hyX5_put rfl ⟨by decide, by decide⟩ hl.1 rfl (Nat.le_of_ble_eq_true rfl) dX7_row_90 (fun H locs hI => ?_)
        refine lv_iconst (v := 0) C.1 C.2.1 dX7_row_93 (by decide) ?_
        refine lv_istore_n (lv' := [(2, .int (0 : Int32)), (1, .int x1_6), (0, .ref (q 99))]) C.1 C.2.1 dX7_row_94 rfl hl (by decide) rfl (fun ls hl => ?_)
        refine lv_iconst (v := 0) C.1 C.2.1 dX7_row_95 (by decide) ?_
        refine lv_istore_n (lv' := [(3, .int (0 : Int32)), (2, .int (0 : Int32)), (1, .int x1_6), (0, .ref (q 99))]) C.1 C.2.1 dX7_row_96 rfl hl (by decide) rfl (fun ls hl => ?_)
        have KL_97 : ∀ (n : Nat) (x1 : Int32) (x2 : Int32) (x3 : Int32) (I : Nat → Int32) (J : Nat → Int64) (A : Nat → Nat → Int32) (B : Nat → Nat → Int64) (o : (Nat → Nat → Int32)) (Q : State → Prop) (H : Heap) (locs : List Loc) (ls : Array Slot), lX7_row_97 n x1 x2 x3 I J A B = some o → CI D cy s P0 s.heap H locs q z tl xx I J A B → lv_has ls 4 [(0, .ref (q 99)), (1, .int x1), (2, .int x2), (3, .int x3)] → (∀ (A_0 : Nat → Nat → Int32) (H : Heap) (locs : List Loc) (ls : Array Slot), o = A_0 → CI D cy s P0 s.heap H locs q z tl xx I J A_0 B → lv_has ls 4 [(0, .ref (q 99))] → W p l e (rmL 2) s m args below meth c H locs 0 0 Q (F0 m 148 ls [])) → W p l e (rmL 2) s m args below meth c H locs 0 0 Q (F0 m 97 ls []) := by
          intro n; induction n with
          | zero => intro x1 x2 x3 I J A B o Q H locs ls hs; rw [lX7_row_97] at hs; cases hs
          | succ n ih =>
            intro x1 x2 x3 I J A B o Q H locs ls hs hI hl kk0
            rw [lX7_row_97] at hs
            refine lv_iload_n C.1 C.2.1 dX7_row_97 rfl (lv_at hl 3 rfl) ?_
            refine lv_iload_n C.1 C.2.1 dX7_row_98 rfl (lv_at hl 1 rfl) ?_
            refine lv_icmp_ge (tgt := 148) C.1 C.2.1 dX7_row_99 (by decide) (fun cn => ?_) (fun cn => ?_)
            · have hs := if_t cn hs
              have eo := (Option.some.inj hs).symm
              exact kk0 _ _ _ _ eo hI (lv_sub hl [0] rfl)
            · have hs := if_f cn hs
              refine lv_aload_n C.1 C.2.1 dX7_row_102 rfl (lv_at hl 0 rfl) ?_
              refine cg_X7_6 C hI dX7_row_103 ?_
              refine lv_iload_n C.1 C.2.1 dX7_row_106 rfl (lv_at hl 3 rfl) ?_
              refine lv_iconst (v := 1) C.1 C.2.1 dX7_row_107 (by decide) ?_
              refine lv_iadd C.1 C.2.1 dX7_row_108 ?_
              obtain ⟨hk, hs⟩ := ck_e hs
              refine ca_6 C hI hk dX7_row_109 ?_
              refine lv_bipush (v := 100) C.1 C.2.1 dX7_row_110 (by decide) ?_
              obtain ⟨k_127, ek_127, hs⟩ := gv_ex hs
              have KJ_127 : ∀ (y0_j127 : Int32) (A : Nat → Nat → Int32) (H : Heap) (locs : List Loc) (ls : Array Slot), k_127 y0_j127 A = some o → CI D cy s P0 s.heap H locs q z tl xx I J A B → lv_has ls 4 [(0, .ref (q 99)), (1, .int x1), (3, .int x3)] → W p l e (rmL 2) s m args below meth c H locs 0 0 Q (F0 m 127 ls [.int y0_j127]) := by
                intro y0_j127 A H locs ls hs hI hl
                rw [ek_127] at hs
                refine lv_istore_n (lv' := [(2, .int y0_j127), (0, .ref (q 99)), (1, .int x1), (3, .int x3)]) C.1 C.2.1 dX7_row_127 rfl hl (by decide) rfl (fun ls hl => ?_)
                refine lv_aload_n C.1 C.2.1 dX7_row_128 rfl (lv_at hl 1 rfl) ?_
                refine cg_X7_0 C hI dX7_row_129 ?_
                refine cg_X7_20 C hI dX7_row_132 ?_
                refine lv_iconst (v := 2) C.1 C.2.1 dX7_row_135 (by decide) ?_
                refine lv_iload_n C.1 C.2.1 dX7_row_136 rfl (lv_at hl 3 rfl) ?_
                refine lv_iadd C.1 C.2.1 dX7_row_137 ?_
                refine lv_iload_n C.1 C.2.1 dX7_row_138 rfl (lv_at hl 0 rfl) ?_
                obtain ⟨A, hc, hs⟩ := bd_e hs
                refine C_call C hI (kX5_put l D cy P0 q z tl xx 3 (by decide) _ _ _ _ _ _ _ hc) (rv_X5 hI 3 (by decide)) ml_X7_117 im_X5_put se_X5_put ini_X5 co_X5_put hyX5_put rfl ⟨by decide, by decide⟩ hl.1 rfl (Nat.le_of_ble_eq_true rfl) dX7_row_139 (fun H locs hI => ?_)
                obtain ⟨x3_142, ex3_142⟩ : ∃ y : Int32, y = (x3 + 1) := ⟨_, rfl⟩
                have hs := gv_at ex3_142 hs
                refine lv_iinc (v := x3_142) (lv' := [(3, .int x3_142), (2, .int y0_j127), (0, .ref (q 99)), (1, .int x1)]) C.1 C.2.1 dX7_row_142 hl (k := 3) rfl (by rw [ex3_142]; rfl) (by decide) rfl (fun ls hl => ?_)
                refine lv_goto (tgt := 97) C.1 C.2.1 dX7_row_145 (by decide) ?_
                exact ih _ _ _ _ _ _ _ _ _ _ _ _ hs hI (lv_sub hl [2, 3, 1, 0] rfl) kk0
              refine lv_icmp_le (tgt := 119) C.1 C.2.1 dX7_row_112 (by decide) (fun cn => ?_) (fun cn => ?_)
              · have hs := if_t cn hs
                refine lv_aload_n C.1 C.2.1 dX7_row_119 rfl (lv_at hl 0 rfl) ?_
                refine cg_X7_6 C hI dX7_row_120 ?_
                refine lv_iload_n C.1 C.2.1 dX7_row_123 rfl (lv_at hl 3 rfl) ?_
                refine lv_iconst (v := 1) C.1 C.2.1 dX7_row_124 (by decide) ?_
                refine lv_iadd C.1 C.2.1 dX7_row_125 ?_
                obtain ⟨hk, hs⟩ := ck_e hs
                refine ca_6 C hI hk dX7_row_126 ?_
                exact KJ_127 _ _ _ _ _ hs hI (lv_sub hl [0, 1, 3] rfl)
              · have hs := if_f cn hs
                refine lv_iload_n C.1 C.2.1 dX7_row_115 rfl (lv_at hl 2 rfl) ?_
                refine lv_goto (tgt := 127) C.1 C.2.1 dX7_row_116 (by decide) ?_
                exact KJ_127 _ _ _ _ _ hs hI (lv_sub hl [0, 1, 3] rfl)
        obtain ⟨A_L, hL, hs⟩ := bd_e hs
        refine KL_97 FU _ _ _ _ _ _ _ _ _ _ _ _ hL hI (lv_sub hl [3, 2, 1, 0] rfl) (fun z0 H locs ls eo hI hl => ?_)
        subst eo
        refine lv_aload_n C.1 C.2.1 dX7_row_148 rfl (lv_at hl 0 rfl) ?_
        refine lv_aload_n C.1 C.2.1 dX7_row_149 rfl (lv_at hl 0 rfl) ?_
        refine cg_X7_0 C hI dX7_row_150 ?_
        refine cg_X7_20 C hI dX7_row_153 ?_
        refine cg_X7_41 C hI dX7_row_156 ?_
        obtain ⟨⟨r_159, I⟩, hc, hs⟩ := bd_e hs
        refine C_call C hI (kX7_accept l D cy P0 q z tl xx _ _ _ _ _ _ _ hc) (rv_X7 hI) ml_X7_77 im_X7_accept se_X7_accept ini_X7 co_X7_accept hyX7_accept rfl ⟨by decide, by decide⟩ hl.1 rfl (Nat.le_of_ble_eq_true rfl) dX7_row_159 (fun H locs hI => ?_)
        obtain ⟨rfl, rfl, rfl⟩ := so3 hs
        exact C_iret C hI dX7_row_162
      · have hs := if_f cn hs
        refine lv_aload_n C.1 C.2.1 dX7_row_47 rfl (lv_at hl 1 rfl) ?_
        refine lv_bipush (v := -6) C.1 C.2.1 dX7_row_48 (by decide) ?_
        obtain ⟨⟨r_50, I⟩, hc, hs⟩ := bd_e hs
        refine C_call C hI (kX7_refuse l D cy P0 q z tl xx _ _ _ _ _ _ _ hc) (rv_X7 hI) ml_X7_70 im_X7_refuse se_X7_refuse ini_X7 co_X7_refuse hyX7_refuse rfl ⟨by decide, by decide⟩ hl.1 rfl (Nat.le_of_ble_eq_true rfl) dX7_row_50 (fun H locs hI => ?_)
        obtain ⟨rfl, rfl, rfl⟩ := so3 hs
        exact C_iret C hI dX7_row_53
  · have hs := if_f cn hs
    refine lv_aload_n C.1 C.2.1 dX7_row_20 rfl (lv_at hl 1 rfl) ?_
    refine lv_bipush (v := -5) C.1 C.2.1 dX7_row_21 (by decide) ?_
    obtain ⟨⟨r_23, I⟩, hc, hs⟩ := bd_e hs
    refine C_call C hI (kX7_refuse l D cy P0 q z tl xx _ _ _ _ _ _ _ hc) (rv_X7 hI) ml_X7_70 im_X7_refuse se_X7_refuse ini_X7 co_X7_refuse hyX7_refuse rfl ⟨by decide, by decide⟩ hl.1 rfl (Nat.le_of_ble_eq_true rfl) dX7_row_23 (fun H locs hI => ?_)
    obtain ⟨rfl, rfl, rfl⟩ := so3 hs
    exact C_iret C hI dX7_row_26

def sX7_tower (x1 : Int32) (x2 : Int32) (x3 : Int32) (x4 : Int32) (x5 : Int32) (I : Nat → Int32) (J : Nat → Int64) (A : Nat → Nat → Int32) (B : Nat → Nat → Int64) : Option ((Int32) × (Nat → Int32) × (Nat → Nat → Int32)) :=
(sX7_isWithin x1 (1 : Int32) (200 : Int32)).bind fun r_5 =>
if r_5 = 0 then
((sX7_refuse (-1 : Int32) I J A B).bind fun (r_58, I) =>
some (r_58, I, A))
else
(sX7_isWithin x2 (0 : Int32) (100 : Int32)).bind fun r_15 =>
if r_15 = 0 then
((sX7_refuse (-1 : Int32) I J A B).bind fun (r_58, I) =>
some (r_58, I, A))
else
(sX7_isWithin x3 (0 : Int32) (400 : Int32)).bind fun r_26 =>
if r_26 = 0 then
((sX7_refuse (-1 : Int32) I J A B).bind fun (r_58, I) =>
some (r_58, I, A))
else
(sX7_isWithin x4 (0 : Int32) (sv_1 (ix (3 : Int32)))).bind fun r_40 =>
if r_40 = 0 then
((sX7_refuse (-1 : Int32) I J A B).bind fun (r_58, I) =>
some (r_58, I, A))
else
(sX7_isWithin x5 (0 : Int32) (1 : Int32)).bind fun r_50 =>
if r_50 = 0 then
((sX7_refuse (-1 : Int32) I J A B).bind fun (r_58, I) =>
some (r_58, I, A))
else
(sX5_isFull 4  I J A B).bind fun r_69 =>
if r_69 = 0 then
((sX5_open 4  I J A B).bind fun I =>
(sX5_put 4 (0 : Int32) x1 I J A B).bind fun A =>
(sX5_put 4 (1 : Int32) x2 I J A B).bind fun A =>
(sX5_put 4 (2 : Int32) x3 I J A B).bind fun A =>
(sX5_put 4 (3 : Int32) x4 I J A B).bind fun A =>
(sX5_put 4 (4 : Int32) x5 I J A B).bind fun A =>
(sX7_accept ((I 44) - (1 : Int32)) I J A B).bind fun (r_167, I) =>
some (r_167, I, A))
else
(sX7_refuse (-5 : Int32) I J A B).bind fun (r_78, I) =>
some (r_78, I, A)
set_option maxRecDepth 100000 in
set_option maxHeartbeats 8000000 in
theorem kX7_tower (l : Launch) (D : va_G) (cy : Nat → ClassId) (P0 : Nat → Prop) (q z : Nat → Nat) (tl : va_W) (xx : (Nat → Option Nat) × (Nat → Option Nat) × Nat) (x1 : Int32) (x2 : Int32) (x3 : Int32) (x4 : Int32) (x5 : Int32) (I : Nat → Int32) (J : Nat → Int64) (A : Nat → Nat → Int32) (B : Nat → Nat → Int64) (r : Int32) (I2 : Nat → Int32) (A2 : Nat → Nat → Int32) (hs : sX7_tower x1 x2 x3 x4 x5 I J A B = some (r, I2, A2)) : McC l yX7_tower cX7_tower 6 (some .int) 2 [.ref (q 99), .int x1, .int x2, .int x3, .int x4, .int x5] D cy P0 q z tl xx I J A B (some (.int r)) xx I2 J A2 B := by
  refine C_start rfl (Nat.le_of_ble_eq_true rfl) ?_
  intro p e s m args below meth c H locs C hI ls hl
  have hl : lv_has ls 6 [(0, .ref (q 99)), (1, .int x1), (2, .int x2), (3, .int x3), (4, .int x4), (5, .int x5)] := hl
  rw [sX7_tower] at hs
  refine lv_iload_n C.1 C.2.1 dX7_tower_0 rfl (lv_at hl 1 rfl) ?_
  refine lv_iconst (v := 1) C.1 C.2.1 dX7_tower_1 (by decide) ?_
  refine lv_sipush (v := 200) C.1 C.2.1 dX7_tower_2 (by decide) ?_
  obtain ⟨r_5, hc, hs⟩ := bd_e hs
  refine S_call (h := 2) C (kX7_isWithin l _ _ _ _ hc) ml_X7_80 st_X7_isWithin ini_X7 co_X7_isWithin hyX7_isWithin rfl ⟨by decide, by decide⟩ hl.1 rfl (Nat.le_of_ble_eq_true rfl) dX7_tower_5 ⟨Nat.le_refl 0, Nat.le_refl 0, Nat.le_refl _, Nat.le_refl _⟩ ?_
  refine lv_if_eq (tgt := 56) C.1 C.2.1 dX7_tower_8 (by decide) (fun cn => ?_) (fun cn => ?_)
  · have hs := if_t cn hs
    refine lv_aload_n C.1 C.2.1 dX7_tower_56 rfl (lv_at hl 0 rfl) ?_
    refine lv_iconst (v := -1) C.1 C.2.1 dX7_tower_57 (by decide) ?_
    obtain ⟨⟨r_58, I⟩, hc, hs⟩ := bd_e hs
    refine C_call C hI (kX7_refuse l D cy P0 q z tl xx _ _ _ _ _ _ _ hc) (rv_X7 hI) ml_X7_70 im_X7_refuse se_X7_refuse ini_X7 co_X7_refuse hyX7_refuse rfl ⟨by decide, by decide⟩ hl.1 rfl (Nat.le_of_ble_eq_true rfl) dX7_tower_58 (fun H locs hI => ?_)
    obtain ⟨rfl, rfl, rfl⟩ := so3 hs
    exact C_iret C hI dX7_tower_61
  · have hs := if_f cn hs
    refine lv_iload_n C.1 C.2.1 dX7_tower_11 rfl (lv_at hl 2 rfl) ?_
    refine lv_iconst (v := 0) C.1 C.2.1 dX7_tower_12 (by decide) ?_
    refine lv_bipush (v := 100) C.1 C.2.1 dX7_tower_13 (by decide) ?_
    obtain ⟨r_15, hc, hs⟩ := bd_e hs
    refine S_call (h := 2) C (kX7_isWithin l _ _ _ _ hc) ml_X7_80 st_X7_isWithin ini_X7 co_X7_isWithin hyX7_isWithin rfl ⟨by decide, by decide⟩ hl.1 rfl (Nat.le_of_ble_eq_true rfl) dX7_tower_15 ⟨Nat.le_refl 0, Nat.le_refl 0, Nat.le_refl _, Nat.le_refl _⟩ ?_
    refine lv_if_eq (tgt := 56) C.1 C.2.1 dX7_tower_18 (by decide) (fun cn => ?_) (fun cn => ?_)
    · have hs := if_t cn hs
      refine lv_aload_n C.1 C.2.1 dX7_tower_56 rfl (lv_at hl 0 rfl) ?_
      refine lv_iconst (v := -1) C.1 C.2.1 dX7_tower_57 (by decide) ?_
      obtain ⟨⟨r_58, I⟩, hc, hs⟩ := bd_e hs
      refine C_call C hI (kX7_refuse l D cy P0 q z tl xx _ _ _ _ _ _ _ hc) (rv_X7 hI) ml_X7_70 im_X7_refuse se_X7_refuse ini_X7 co_X7_refuse hyX7_refuse rfl ⟨by decide, by decide⟩ hl.1 rfl (Nat.le_of_ble_eq_true rfl) dX7_tower_58 (fun H locs hI => ?_)
      obtain ⟨rfl, rfl, rfl⟩ := so3 hs
      exact C_iret C hI dX7_tower_61
    · have hs := if_f cn hs
      refine lv_iload_n C.1 C.2.1 dX7_tower_21 rfl (lv_at hl 3 rfl) ?_
      refine lv_iconst (v := 0) C.1 C.2.1 dX7_tower_22 (by decide) ?_
      refine lv_sipush (v := 400) C.1 C.2.1 dX7_tower_23 (by decide) ?_
      obtain ⟨r_26, hc, hs⟩ := bd_e hs
      refine S_call (h := 2) C (kX7_isWithin l _ _ _ _ hc) ml_X7_80 st_X7_isWithin ini_X7 co_X7_isWithin hyX7_isWithin rfl ⟨by decide, by decide⟩ hl.1 rfl (Nat.le_of_ble_eq_true rfl) dX7_tower_26 ⟨Nat.le_refl 0, Nat.le_refl 0, Nat.le_refl _, Nat.le_refl _⟩ ?_
      refine lv_if_eq (tgt := 56) C.1 C.2.1 dX7_tower_29 (by decide) (fun cn => ?_) (fun cn => ?_)
      · have hs := if_t cn hs
        refine lv_aload_n C.1 C.2.1 dX7_tower_56 rfl (lv_at hl 0 rfl) ?_
        refine lv_iconst (v := -1) C.1 C.2.1 dX7_tower_57 (by decide) ?_
        obtain ⟨⟨r_58, I⟩, hc, hs⟩ := bd_e hs
        refine C_call C hI (kX7_refuse l D cy P0 q z tl xx _ _ _ _ _ _ _ hc) (rv_X7 hI) ml_X7_70 im_X7_refuse se_X7_refuse ini_X7 co_X7_refuse hyX7_refuse rfl ⟨by decide, by decide⟩ hl.1 rfl (Nat.le_of_ble_eq_true rfl) dX7_tower_58 (fun H locs hI => ?_)
        obtain ⟨rfl, rfl, rfl⟩ := so3 hs
        exact C_iret C hI dX7_tower_61
      · have hs := if_f cn hs
        refine lv_iload C.1 C.2.1 dX7_tower_32 (lv_at hl 4 rfl) ?_
        refine lv_iconst (v := 0) C.1 C.2.1 dX7_tower_34 (by decide) ?_
        refine cz_X7_1 C hI dX7_tower_35 ?_
        refine lv_iconst (v := 3) C.1 C.2.1 dX7_tower_38 (by decide) ?_
        refine ct_1 C hI (by decide) dX7_tower_39 ?_
        obtain ⟨r_40, hc, hs⟩ := bd_e hs
        refine S_call (h := 2) C (kX7_isWithin l _ _ _ _ hc) ml_X7_80 st_X7_isWithin ini_X7 co_X7_isWithin hyX7_isWithin rfl ⟨by decide, by decide⟩ hl.1 rfl (Nat.le_of_ble_eq_true rfl) dX7_tower_40 ⟨Nat.le_refl 0, Nat.le_refl 0, Nat.le_refl _, Nat.le_refl _⟩ ?_
        refine lv_if_eq (tgt := 56) C.1 C.2.1 dX7_tower_43 (by decide) (fun cn => ?_) (fun cn => ?_)
        · have hs := if_t cn hs
          refine lv_aload_n C.1 C.2.1 dX7_tower_56 rfl (lv_at hl 0 rfl) ?_
          refine lv_iconst (v := -1) C.1 C.2.1 dX7_tower_57 (by decide) ?_
          obtain ⟨⟨r_58, I⟩, hc, hs⟩ := bd_e hs
          refine C_call C hI (kX7_refuse l D cy P0 q z tl xx _ _ _ _ _ _ _ hc) (rv_X7 hI) ml_X7_70 im_X7_refuse se_X7_refuse ini_X7 co_X7_refuse hyX7_refuse rfl ⟨by decide, by decide⟩ hl.1 rfl (Nat.le_of_ble_eq_true rfl) dX7_tower_58 (fun H locs hI => ?_)
          obtain ⟨rfl, rfl, rfl⟩ := so3 hs
          exact C_iret C hI dX7_tower_61
        · have hs := if_f cn hs
          refine lv_iload C.1 C.2.1 dX7_tower_46 (lv_at hl 5 rfl) ?_
          refine lv_iconst (v := 0) C.1 C.2.1 dX7_tower_48 (by decide) ?_
          refine lv_iconst (v := 1) C.1 C.2.1 dX7_tower_49 (by decide) ?_
          obtain ⟨r_50, hc, hs⟩ := bd_e hs
          refine S_call (h := 2) C (kX7_isWithin l _ _ _ _ hc) ml_X7_80 st_X7_isWithin ini_X7 co_X7_isWithin hyX7_isWithin rfl ⟨by decide, by decide⟩ hl.1 rfl (Nat.le_of_ble_eq_true rfl) dX7_tower_50 ⟨Nat.le_refl 0, Nat.le_refl 0, Nat.le_refl _, Nat.le_refl _⟩ ?_
          refine lv_if_ne (tgt := 62) C.1 C.2.1 dX7_tower_53 (by decide) (fun cn => ?_) (fun cn => ?_)
          · have hs := if_f cn hs
            refine lv_aload_n C.1 C.2.1 dX7_tower_62 rfl (lv_at hl 0 rfl) ?_
            refine cg_X7_0 C hI dX7_tower_63 ?_
            refine cg_X7_21 C hI dX7_tower_66 ?_
            obtain ⟨r_69, hc, hs⟩ := bd_e hs
            refine C_call C hI (kX5_isFull l D cy P0 q z tl xx 4 (by decide) _ _ _ _ _ hc) (rv_X5 hI 4 (by decide)) ml_X7_108 im_X5_isFull se_X5_isFull ini_X5 co_X5_isFull hyX5_isFull rfl ⟨by decide, by decide⟩ hl.1 rfl (Nat.le_of_ble_eq_true rfl) dX7_tower_69 (fun H locs hI => ?_)
            refine lv_if_eq (tgt := 82) C.1 C.2.1 dX7_tower_72 (by decide) (fun cn => ?_) (fun cn => ?_)
            · have hs := if_t cn hs
              refine lv_aload_n C.1 C.2.1 dX7_tower_82 rfl (lv_at hl 0 rfl) ?_
              refine cg_X7_0 C hI dX7_tower_83 ?_
              refine cg_X7_21 C hI dX7_tower_86 ?_
              obtain ⟨I, hc, hs⟩ := bd_e hs
              refine C_call C hI (kX5_open l D cy P0 q z tl xx 4 (by decide) _ _ _ _ _ hc) (rv_X5 hI 4 (by decide)) ml_X7_114 im_X5_open se_X5_open ini_X5 co_X5_open hyX5_open rfl ⟨by decide, by decide⟩ hl.1 rfl (Nat.le_of_ble_eq_true rfl) dX7_tower_89 (fun H locs hI => ?_)
              refine lv_aload_n C.1 C.2.1 dX7_tower_92 rfl (lv_at hl 0 rfl) ?_
              refine cg_X7_0 C hI dX7_tower_93 ?_
              refine cg_X7_21 C hI dX7_tower_96 ?_
              refine lv_iconst (v := 0) C.1 C.2.1 dX7_tower_99 (by decide) ?_
              refine lv_iload_n C.1 C.2.1 dX7_tower_100 rfl (lv_at hl 1 rfl) ?_
              obtain ⟨A, hc, hs⟩ := bd_e hs
              refine C_call C hI (kX5_put l D cy P0 q z tl xx 4 (by decide) _ _ _ _ _ _ _ hc) (rv_X5 hI 4 (by decide)) ml_X7_117 im_X5_put se_X5_put ini_X5 co_X5_put hyX5_put rfl ⟨by decide, by decide⟩ hl.1 rfl (Nat.le_of_ble_eq_true rfl) dX7_tower_101 (fun H locs hI => ?_)
              refine lv_aload_n C.1 C.2.1 dX7_tower_104 rfl (lv_at hl 0 rfl) ?_
              refine cg_X7_0 C hI dX7_tower_105 ?_
              refine cg_X7_21 C hI dX7_tower_108 ?_
              refine lv_iconst (v := 1) C.1 C.2.1 dX7_tower_111 (by decide) ?_
              refine lv_iload_n C.1 C.2.1 dX7_tower_112 rfl (lv_at hl 2 rfl) ?_
              obtain ⟨A, hc, hs⟩ := bd_e hs
              refine C_call C hI (kX5_put l D cy P0 q z tl xx 4 (by decide) _ _ _ _ _ _ _ hc) (rv_X5 hI 4 (by decide)) ml_X7_117 im_X5_put se_X5_put ini_X5 co_X5_put hyX5_put rfl ⟨by decide, by decide⟩ hl.1 rfl (Nat.le_of_ble_eq_true rfl) dX7_tower_113 (fun H locs hI => ?_)
              refine lv_aload_n C.1 C.2.1 dX7_tower_116 rfl (lv_at hl 0 rfl) ?_
              refine cg_X7_0 C hI dX7_tower_117 ?_
              refine cg_X7_21 C hI dX7_tower_120 ?_
              refine lv_iconst (v := 2) C.1 C.2.1 dX7_tower_123 (by decide) ?_
              refine lv_iload_n C.1 C.2.1 dX7_tower_124 rfl (lv_at hl 3 rfl) ?_
              obtain ⟨A, hc, hs⟩ := bd_e hs
              refine C_call C hI (kX5_put l D cy P0 q z tl xx 4 (by decide) _ _ _ _ _ _ _ hc) (rv_X5 hI 4 (by decide)) ml_X7_117 im_X5_put se_X5_put ini_X5 co_X5_put hyX5_put rfl ⟨by decide, by decide⟩ hl.1 rfl (Nat.le_of_ble_eq_true rfl) dX7_tower_125 (fun H locs hI => ?_)
              refine lv_aload_n C.1 C.2.1 dX7_tower_128 rfl (lv_at hl 0 rfl) ?_
              refine cg_X7_0 C hI dX7_tower_129 ?_
              refine cg_X7_21 C hI dX7_tower_132 ?_
              refine lv_iconst (v := 3) C.1 C.2.1 dX7_tower_135 (by decide) ?_
              refine lv_iload C.1 C.2.1 dX7_tower_136 (lv_at hl 4 rfl) ?_
              obtain ⟨A, hc, hs⟩ := bd_e hs
              refine C_call C hI (kX5_put l D cy P0 q z tl xx 4 (by decide) _ _ _ _ _ _ _ hc) (rv_X5 hI 4 (by decide)) ml_X7_117 im_X5_put se_X5_put ini_X5 co_X5_put hyX5_put rfl ⟨by decide, by decide⟩ hl.1 rfl (Nat.le_of_ble_eq_true rfl) dX7_tower_138 (fun H locs hI => ?_)
              refine lv_aload_n C.1 C.2.1 dX7_tower_141 rfl (lv_at hl 0 rfl) ?_
              refine cg_X7_0 C hI dX7_tower_142 ?_
              refine cg_X7_21 C hI dX7_tower_145 ?_
              refine lv_iconst (v := 4) C.1 C.2.1 dX7_tower_148 (by decide) ?_
              refine lv_iload C.1 C.2.1 dX7_tower_149 (lv_at hl 5 rfl) ?_
              obtain ⟨A, hc, hs⟩ := bd_e hs
              refine C_call C hI (kX5_put l D cy P0 q z tl xx 4 (by decide) _ _ _ _ _ _ _ hc) (rv_X5 hI 4 (by decide)) ml_X7_117 im_X5_put se_X5_put ini_X5 co_X5_put hyX5_put rfl ⟨by decide, by decide⟩ hl.1 rfl (Nat.le_of_ble_eq_true rfl) dX7_tower_151 (fun H locs hI => ?_)
              refine lv_aload_n C.1 C.2.1 dX7_tower_154 rfl (lv_at hl 0 rfl) ?_
              refine lv_aload_n C.1 C.2.1 dX7_tower_155 rfl (lv_at hl 0 rfl) ?_
              refine cg_X7_0 C hI dX7_tower_156 ?_
              refine cg_X7_21 C hI dX7_tower_159 ?_
              refine cg_X7_44 C hI dX7_tower_162 ?_
              refine lv_iconst (v := 1) C.1 C.2.1 dX7_tower_165 (by decide) ?_
              refine lv_isub C.1 C.2.1 dX7_tower_166 ?_
              obtain ⟨⟨r_167, I⟩, hc, hs⟩ := bd_e hs
              refine C_call C hI (kX7_accept l D cy P0 q z tl xx _ _ _ _ _ _ _ hc) (rv_X7 hI) ml_X7_77 im_X7_accept se_X7_accept ini_X7 co_X7_accept hyX7_accept rfl ⟨by decide, by decide⟩ hl.1 rfl (Nat.le_of_ble_eq_true rfl) dX7_tower_167 (fun H locs hI => ?_)
              obtain ⟨rfl, rfl, rfl⟩ := so3 hs
              exact C_iret C hI dX7_tower_170
            · have hs := if_f cn hs
              refine lv_aload_n C.1 C.2.1 dX7_tower_75 rfl (lv_at hl 0 rfl) ?_
              refine lv_bipush (v := -5) C.1 C.2.1 dX7_tower_76 (by decide) ?_
              obtain ⟨⟨r_78, I⟩, hc, hs⟩ := bd_e hs
              refine C_call C hI (kX7_refuse l D cy P0 q z tl xx _ _ _ _ _ _ _ hc) (rv_X7 hI) ml_X7_70 im_X7_refuse se_X7_refuse ini_X7 co_X7_refuse hyX7_refuse rfl ⟨by decide, by decide⟩ hl.1 rfl (Nat.le_of_ble_eq_true rfl) dX7_tower_78 (fun H locs hI => ?_)
              obtain ⟨rfl, rfl, rfl⟩ := so3 hs
              exact C_iret C hI dX7_tower_81
          · have hs := if_t cn hs
            refine lv_aload_n C.1 C.2.1 dX7_tower_56 rfl (lv_at hl 0 rfl) ?_
            refine lv_iconst (v := -1) C.1 C.2.1 dX7_tower_57 (by decide) ?_
            obtain ⟨⟨r_58, I⟩, hc, hs⟩ := bd_e hs
            refine C_call C hI (kX7_refuse l D cy P0 q z tl xx _ _ _ _ _ _ _ hc) (rv_X7 hI) ml_X7_70 im_X7_refuse se_X7_refuse ini_X7 co_X7_refuse hyX7_refuse rfl ⟨by decide, by decide⟩ hl.1 rfl (Nat.le_of_ble_eq_true rfl) dX7_tower_58 (fun H locs hI => ?_)
            obtain ⟨rfl, rfl, rfl⟩ := so3 hs
            exact C_iret C hI dX7_tower_61

def lX1_breakUp_18 : Nat → Int32 → (Nat → Int32) → (Nat → Int64) → (Nat → Nat → Int32) → (Nat → Nat → Int64) → Option ((Nat → Int32) × (Nat → Nat → Int32) × (Nat → Nat → Int64))
  | 0, _, _, _, _, _ => none
  | n + 1, x3, I, J, A, B =>
    if (6 : Int32) ≤ x3 then
    (some (I, A, B))
    else
    ck (inB x3 6) <|
    gv (va_up A 60 (upd (A 60) (ix x3) (0 : Int32))) fun A =>
    (sX1_look x3 I J A B).bind fun (I, A, B) =>
    gv (x3 + 1) fun x3_36 =>
    lX1_breakUp_18 n x3_36 I J A B
def lX1_breakUp_42 : Nat → (Nat → Int32) → (Nat → Int64) → (Nat → Nat → Int32) → (Nat → Nat → Int64) → Option (((Nat → Int32) × (Nat → Nat → Int32) × (Nat → Nat → Int64)) ⊕ ((Nat → Int32) × (Nat → Nat → Int32) × (Nat → Nat → Int64)))
  | 0, _, _, _, _ => none
  | n + 1, I, J, A, B =>
    if (I 54) = (-1 : Int32) then
    (if (48 : Int32) ≤ (I 53) then
    (some (.inr (I, A, B)))
    else
    (sX1_worstOfAll  I J A B).bind fun r_60 =>
    if r_60 = (-1 : Int32) then
    (some (.inl (I, A, B)))
    else
    ck (inB (I 53) 48) <|
    gv (va_up A 52 (upd (A 52) (ix (I 53)) r_60)) fun A =>
    gv (upd I 53 ((I 53) + (1 : Int32))) fun I =>
    gv (r_60 / (8 : Int32)) fun x4_94 =>
    ck (inB x4_94 6) <|
    ck (inB x4_94 6) <|
    gv (va_up A 60 (upd (A 60) (ix x4_94) ((A 60 (ix x4_94)) ||| ((1 : Int32) <<< ((r_60 - r_60 / (8 : Int32) * (8 : Int32)) &&& 31))))) fun A =>
    (sX1_look x4_94 I J A B).bind fun (I, A, B) =>
    lX1_breakUp_42 n I J A B)
    else
    some (.inr (I, A, B))
def sX1_breakUp (x1 : Int32) (x2 : Int32) (I : Nat → Int32) (J : Nat → Int64) (A : Nat → Nat → Int32) (B : Nat → Nat → Int64) : Option ((Nat → Int32) × (Nat → Int64) × (Nat → Nat → Int32) × (Nat → Nat → Int64)) :=
(sX1_blow x1 x2 I J A B).bind fun J =>
gv (upd I 53 (0 : Int32)) fun I =>
gv (upd I 54 (-1 : Int32)) fun I =>
(lX1_breakUp_18 FU (0 : Int32) I J A B).bind fun (I, A, B) =>
(lX1_breakUp_42 FU I J A B).bind fun o_42 => match o_42 with
| .inl (I, A, B) =>
some (I, J, A, B)
| .inr (I, A, B) =>
some (I, J, A, B)
set_option maxRecDepth 100000 in
set_option maxHeartbeats 8000000 in
theorem kX1_breakUp (l : Launch) (D : va_G) (cy : Nat → ClassId) (P0 : Nat → Prop) (q z : Nat → Nat) (tl : va_W) (xx : (Nat → Option Nat) × (Nat → Option Nat) × Nat) (x1 : Int32) (x2 : Int32) (I : Nat → Int32) (J : Nat → Int64) (A : Nat → Nat → Int32) (B : Nat → Nat → Int64) (I2 : Nat → Int32) (J2 : Nat → Int64) (A2 : Nat → Nat → Int32) (B2 : Nat → Nat → Int64) (hs : sX1_breakUp x1 x2 I J A B = some (I2, J2, A2, B2)) : McC l yX1_breakUp cX1_breakUp 5 none 3 [.ref (q 2), .int x1, .int x2] D cy P0 q z tl xx I J A B none xx I2 J2 A2 B2 := by
  refine C_start rfl (Nat.le_of_ble_eq_true rfl) ?_
  intro p e s m args below meth c H locs C hI ls hl
  have hl : lv_has ls 5 [(0, .ref (q 2)), (1, .int x1), (2, .int x2)] := hl
  rw [sX1_breakUp] at hs
  refine lv_aload_n C.1 C.2.1 dX1_breakUp_0 rfl (lv_at hl 0 rfl) ?_
  refine lv_iload_n C.1 C.2.1 dX1_breakUp_1 rfl (lv_at hl 1 rfl) ?_
  refine lv_iload_n C.1 C.2.1 dX1_breakUp_2 rfl (lv_at hl 2 rfl) ?_
  obtain ⟨J, hc, hs⟩ := bd_e hs
  refine C_call C hI (kX1_blow l D cy P0 q z tl xx _ _ _ _ _ _ _ hc) (rv_X1 hI) ml_X1_136 im_X1_blow se_X1_blow ini_X1 co_X1_blow hyX1_blow rfl ⟨by decide, by decide⟩ hl.1 rfl (Nat.le_of_ble_eq_true rfl) dX1_breakUp_3 (fun H locs hI => ?_)
  refine lv_aload_n C.1 C.2.1 dX1_breakUp_6 rfl (lv_at hl 0 rfl) ?_
  refine lv_iconst (v := 0) C.1 C.2.1 dX1_breakUp_7 (by decide) ?_
  refine cp_X1_53 C hI dX1_breakUp_8 (fun H locs hI => ?_)
  have hs := gv_be hs
  refine lv_aload_n C.1 C.2.1 dX1_breakUp_11 rfl (lv_at hl 0 rfl) ?_
  refine lv_iconst (v := -1) C.1 C.2.1 dX1_breakUp_12 (by decide) ?_
  refine cp_X1_54 C hI dX1_breakUp_13 (fun H locs hI => ?_)
  have hs := gv_be hs
  refine lv_iconst (v := 0) C.1 C.2.1 dX1_breakUp_16 (by decide) ?_
  refine lv_istore_n (lv' := [(3, .int (0 : Int32)), (0, .ref (q 2)), (1, .int x1), (2, .int x2)]) C.1 C.2.1 dX1_breakUp_17 rfl hl (by decide) rfl (fun ls hl => ?_)
  have KL_18 : ∀ (n : Nat) (x3 : Int32) (I : Nat → Int32) (J : Nat → Int64) (A : Nat → Nat → Int32) (B : Nat → Nat → Int64) (o : (Nat → Int32) × (Nat → Nat → Int32) × (Nat → Nat → Int64)) (Q : State → Prop) (H : Heap) (locs : List Loc) (ls : Array Slot), lX1_breakUp_18 n x3 I J A B = some o → CI D cy s P0 s.heap H locs q z tl xx I J A B → lv_has ls 5 [(0, .ref (q 2)), (3, .int x3)] → (∀ (I_0 : Nat → Int32) (A_0 : Nat → Nat → Int32) (B_0 : Nat → Nat → Int64) (H : Heap) (locs : List Loc) (ls : Array Slot), o = (I_0, A_0, B_0) → CI D cy s P0 s.heap H locs q z tl xx I_0 J A_0 B_0 → lv_has ls 5 [(0, .ref (q 2))] → W p l e (rmL 3) s m args below meth c H locs 0 0 Q (F0 m 42 ls [])) → W p l e (rmL 3) s m args below meth c H locs 0 0 Q (F0 m 18 ls []) := by
    intro n; induction n with
    | zero => intro x3 I J A B o Q H locs ls hs; rw [lX1_breakUp_18] at hs; cases hs
    | succ n ih =>
      intro x3 I J A B o Q H locs ls hs hI hl kk0
      rw [lX1_breakUp_18] at hs
      refine lv_iload_n C.1 C.2.1 dX1_breakUp_18 rfl (lv_at hl 1 rfl) ?_
      refine lv_bipush (v := 6) C.1 C.2.1 dX1_breakUp_19 (by decide) ?_
      refine lv_icmp_ge (tgt := 42) C.1 C.2.1 dX1_breakUp_21 (by decide) (fun cn => ?_) (fun cn => ?_)
      · have hs := if_t cn hs
        have eo := (Option.some.inj hs).symm
        exact kk0 _ _ _ _ _ _ eo hI (lv_sub hl [0] rfl)
      · have hs := if_f cn hs
        refine lv_aload_n C.1 C.2.1 dX1_breakUp_24 rfl (lv_at hl 0 rfl) ?_
        refine cg_X1_60 C hI dX1_breakUp_25 ?_
        refine lv_iload_n C.1 C.2.1 dX1_breakUp_28 rfl (lv_at hl 1 rfl) ?_
        refine lv_iconst (v := 0) C.1 C.2.1 dX1_breakUp_29 (by decide) ?_
        obtain ⟨hk, hs⟩ := ck_e hs
        refine cs_60 C hI hk dX1_breakUp_30 (fun H locs hI => ?_)
        have hs := gv_be hs
        refine lv_aload_n C.1 C.2.1 dX1_breakUp_31 rfl (lv_at hl 0 rfl) ?_
        refine lv_iload_n C.1 C.2.1 dX1_breakUp_32 rfl (lv_at hl 1 rfl) ?_
        obtain ⟨⟨I, A, B⟩, hc, hs⟩ := bd_e hs
        refine C_call C hI (kX1_look l D cy P0 q z tl xx _ _ _ _ _ _ _ _ hc) (rv_X1 hI) ml_X1_139 im_X1_look se_X1_look ini_X1 co_X1_look hyX1_look rfl ⟨by decide, by decide⟩ hl.1 rfl (Nat.le_of_ble_eq_true rfl) dX1_breakUp_33 (fun H locs hI => ?_)
        obtain ⟨x3_36, ex3_36⟩ : ∃ y : Int32, y = (x3 + 1) := ⟨_, rfl⟩
        have hs := gv_at ex3_36 hs
        refine lv_iinc (v := x3_36) (lv' := [(3, .int x3_36), (0, .ref (q 2))]) C.1 C.2.1 dX1_breakUp_36 hl (k := 1) rfl (by rw [ex3_36]; rfl) (by decide) rfl (fun ls hl => ?_)
        refine lv_goto (tgt := 18) C.1 C.2.1 dX1_breakUp_39 (by decide) ?_
        exact ih _ _ _ _ _ _ _ _ _ _ hs hI (lv_sub hl [1, 0] rfl) kk0
  obtain ⟨⟨I_L, A_L, B_L⟩, hL, hs⟩ := bd_e hs
  refine KL_18 FU _ _ _ _ _ _ _ _ _ _ hL hI (lv_sub hl [1, 0] rfl) (fun z0 z1 z2 H locs ls eo hI hl => ?_)
  obtain ⟨rfl, rfl, rfl⟩ := pr3 eo
  have KL_42 : ∀ (n : Nat) (I : Nat → Int32) (J : Nat → Int64) (A : Nat → Nat → Int32) (B : Nat → Nat → Int64) (o : ((Nat → Int32) × (Nat → Nat → Int32) × (Nat → Nat → Int64)) ⊕ ((Nat → Int32) × (Nat → Nat → Int32) × (Nat → Nat → Int64))) (Q : State → Prop) (H : Heap) (locs : List Loc) (ls : Array Slot), lX1_breakUp_42 n I J A B = some o → CI D cy s P0 s.heap H locs q z tl xx I J A B → lv_has ls 5 [(0, .ref (q 2))] → (∀ (I_0 : Nat → Int32) (A_0 : Nat → Nat → Int32) (B_0 : Nat → Nat → Int64) (H : Heap) (locs : List Loc) (ls : Array Slot), o = (.inl (I_0, A_0, B_0)) → CI D cy s P0 s.heap H locs q z tl xx I_0 J A_0 B_0 → lv_has ls 5 [] → W p l e (rmL 3) s m args below meth c H locs 0 0 Q (F0 m 69 ls [])) → (∀ (I_1 : Nat → Int32) (A_1 : Nat → Nat → Int32) (B_1 : Nat → Nat → Int64) (H : Heap) (locs : List Loc) (ls : Array Slot), o = (.inr (I_1, A_1, B_1)) → CI D cy s P0 s.heap H locs q z tl xx I_1 J A_1 B_1 → lv_has ls 5 [] → W p l e (rmL 3) s m args below meth c H locs 0 0 Q (F0 m 121 ls [])) → W p l e (rmL 3) s m args below meth c H locs 0 0 Q (F0 m 42 ls []) := by
    intro n; induction n with
    | zero => intro I J A B o Q H locs ls hs; rw [lX1_breakUp_42] at hs; cases hs
    | succ n ih =>
      intro I J A B o Q H locs ls hs hI hl kk0 kk1
      rw [lX1_breakUp_42] at hs
      refine lv_aload_n C.1 C.2.1 dX1_breakUp_42 rfl (lv_at hl 0 rfl) ?_
      refine cg_X1_54 C hI dX1_breakUp_43 ?_
      refine lv_iconst (v := -1) C.1 C.2.1 dX1_breakUp_46 (by decide) ?_
      refine lv_icmp_ne (tgt := 121) C.1 C.2.1 dX1_breakUp_47 (by decide) (fun cn => ?_) (fun cn => ?_)
      · have hs := if_f cn hs
        have eo := (Option.some.inj hs).symm
        exact kk1 _ _ _ _ _ _ eo hI (lv_sub hl [] rfl)
      · have hs := if_t cn hs
        refine lv_aload_n C.1 C.2.1 dX1_breakUp_50 rfl (lv_at hl 0 rfl) ?_
        refine cg_X1_53 C hI dX1_breakUp_51 ?_
        refine lv_bipush (v := 48) C.1 C.2.1 dX1_breakUp_54 (by decide) ?_
        refine lv_icmp_ge (tgt := 121) C.1 C.2.1 dX1_breakUp_56 (by decide) (fun cn => ?_) (fun cn => ?_)
        · have hs := if_t cn hs
          have eo := (Option.some.inj hs).symm
          exact kk1 _ _ _ _ _ _ eo hI (lv_sub hl [] rfl)
        · have hs := if_f cn hs
          refine lv_aload_n C.1 C.2.1 dX1_breakUp_59 rfl (lv_at hl 0 rfl) ?_
          obtain ⟨r_60, hc, hs⟩ := bd_e hs
          refine C_call C hI (kX1_worstOfAll l D cy P0 q z tl xx _ _ _ _ _ hc) (rv_X1 hI) ml_X1_142 im_X1_worstOfAll se_X1_worstOfAll ini_X1 co_X1_worstOfAll hyX1_worstOfAll rfl ⟨by decide, by decide⟩ hl.1 rfl (Nat.le_of_ble_eq_true rfl) dX1_breakUp_60 (fun H locs hI => ?_)
          refine lv_istore_n (lv' := [(3, .int r_60), (0, .ref (q 2))]) C.1 C.2.1 dX1_breakUp_63 rfl hl (by decide) rfl (fun ls hl => ?_)
          refine lv_iload_n C.1 C.2.1 dX1_breakUp_64 rfl (lv_at hl 0 rfl) ?_
          refine lv_iconst (v := -1) C.1 C.2.1 dX1_breakUp_65 (by decide) ?_
          refine lv_icmp_ne (tgt := 70) C.1 C.2.1 dX1_breakUp_66 (by decide) (fun cn => ?_) (fun cn => ?_)
          · have hs := if_f cn hs
            refine lv_aload_n C.1 C.2.1 dX1_breakUp_70 rfl (lv_at hl 1 rfl) ?_
            refine cg_X1_52 C hI dX1_breakUp_71 ?_
            refine lv_aload_n C.1 C.2.1 dX1_breakUp_74 rfl (lv_at hl 1 rfl) ?_
            refine cg_X1_53 C hI dX1_breakUp_75 ?_
            refine lv_iload_n C.1 C.2.1 dX1_breakUp_78 rfl (lv_at hl 0 rfl) ?_
            obtain ⟨hk, hs⟩ := ck_e hs
            refine cs_52 C hI hk dX1_breakUp_79 (fun H locs hI => ?_)
            have hs := gv_be hs
            refine lv_aload_n C.1 C.2.1 dX1_breakUp_80 rfl (lv_at hl 1 rfl) ?_
            refine lv_dup C.1 C.2.1 dX1_breakUp_81 rfl ?_
            refine cg_X1_53 C hI dX1_breakUp_82 ?_
            refine lv_iconst (v := 1) C.1 C.2.1 dX1_breakUp_85 (by decide) ?_
            refine lv_iadd C.1 C.2.1 dX1_breakUp_86 ?_
            refine cp_X1_53 C hI dX1_breakUp_87 (fun H locs hI => ?_)
            have hs := gv_be hs
            refine lv_iload_n C.1 C.2.1 dX1_breakUp_90 rfl (lv_at hl 0 rfl) ?_
            refine lv_bipush (v := 8) C.1 C.2.1 dX1_breakUp_91 (by decide) ?_
            refine lv_idiv C.1 C.2.1 dX1_breakUp_93 (by decide) ?_
            refine lv_topi (fun x4_94 ex4_94 => ?_)
            have hs := gv_at ex4_94 hs
            refine lv_istore (lv' := [(4, .int x4_94), (3, .int r_60), (0, .ref (q 2))]) C.1 C.2.1 dX1_breakUp_94 hl (by decide) rfl (fun ls hl => ?_)
            refine lv_aload_n C.1 C.2.1 dX1_breakUp_96 rfl (lv_at hl 2 rfl) ?_
            refine cg_X1_60 C hI dX1_breakUp_97 ?_
            refine lv_iload C.1 C.2.1 dX1_breakUp_100 (lv_at hl 0 rfl) ?_
            refine lv_dup2_11 C.1 C.2.1 dX1_breakUp_102 rfl rfl ?_
            obtain ⟨hk, hs⟩ := ck_e hs
            refine ca_60 C hI hk dX1_breakUp_103 ?_
            refine lv_iconst (v := 1) C.1 C.2.1 dX1_breakUp_104 (by decide) ?_
            refine lv_iload_n C.1 C.2.1 dX1_breakUp_105 rfl (lv_at hl 1 rfl) ?_
            refine lv_bipush (v := 8) C.1 C.2.1 dX1_breakUp_106 (by decide) ?_
            refine lv_irem C.1 C.2.1 dX1_breakUp_108 (by decide) ?_
            refine lv_ishl C.1 C.2.1 dX1_breakUp_109 ?_
            refine lv_ior C.1 C.2.1 dX1_breakUp_110 ?_
            obtain ⟨hk, hs⟩ := ck_e hs
            refine cs_60 C hI hk dX1_breakUp_111 (fun H locs hI => ?_)
            have hs := gv_be hs
            refine lv_aload_n C.1 C.2.1 dX1_breakUp_112 rfl (lv_at hl 2 rfl) ?_
            refine lv_iload C.1 C.2.1 dX1_breakUp_113 (lv_at hl 0 rfl) ?_
            obtain ⟨⟨I, A, B⟩, hc, hs⟩ := bd_e hs
            refine C_call C hI (kX1_look l D cy P0 q z tl xx _ _ _ _ _ _ _ _ hc) (rv_X1 hI) ml_X1_139 im_X1_look se_X1_look ini_X1 co_X1_look hyX1_look rfl ⟨by decide, by decide⟩ hl.1 rfl (Nat.le_of_ble_eq_true rfl) dX1_breakUp_115 (fun H locs hI => ?_)
            refine lv_goto (tgt := 42) C.1 C.2.1 dX1_breakUp_118 (by decide) ?_
            exact ih _ _ _ _ _ _ _ _ _ hs hI (lv_sub hl [2] rfl) kk0 kk1
          · have hs := if_t cn hs
            have eo := (Option.some.inj hs).symm
            exact kk0 _ _ _ _ _ _ eo hI (lv_sub hl [] rfl)
  obtain ⟨o_42, hL, hs⟩ := bd_e hs
  refine KL_42 FU _ _ _ _ _ _ _ _ _ hL hI (lv_sub hl [0] rfl) (fun I A B H locs ls eo hI hl => ?_) (fun I A B H locs ls eo hI hl => ?_)
  · rw [eo] at hs
    obtain ⟨rfl, rfl, rfl, rfl⟩ := so4 hs
    exact C_vret C hI dX1_breakUp_69
  · rw [eo] at hs
    obtain ⟨rfl, rfl, rfl, rfl⟩ := so4 hs
    exact C_vret C hI dX1_breakUp_121

def lX1_fallsOf_66 : Nat → Int32 → Int32 → Int32 → Int32 → Int32 → (Nat → Int32) → (Nat → Int64) → (Nat → Nat → Int32) → (Nat → Nat → Int64) → Option ((Nat → Int32) × (Nat → Nat → Int32) × (Nat → Nat → Int64))
  | 0, _, _, _, _, _, _, _, _, _ => none
  | n + 1, x1, x2, x3, x4, x5, I, J, A, B =>
    if (8 : Int32) ≤ x5 then
    (some (I, A, B))
    else
    ck (inB x1 6) <|
    if (A 61 (ix x1)) = (-1 : Int32) then
    (some (I, A, B))
    else
    ck (inB x1 6) <|
    ck (inB x1 6) <|
    ck (inB x1 6) <|
    gv (va_up A 60 (upd (A 60) (ix x1) ((A 60 (ix x1)) ||| ((1 : Int32) <<< (((A 61 (ix x1)) - (A 61 (ix x1)) / (8 : Int32) * (8 : Int32)) &&& 31))))) fun A =>
    (sX1_look x1 I J A B).bind fun (I, A, B) =>
    gv (x5 + 1) fun x5_108 =>
    lX1_fallsOf_66 n x1 x2 x3 x4 x5_108 I J A B
def lX1_fallsOf_5 : Nat → Int32 → Int32 → Int32 → Int32 → (Nat → Int32) → (Nat → Int64) → (Nat → Nat → Int32) → (Nat → Nat → Int64) → Option (Int32 × (Nat → Int32) × (Nat → Int64) × (Nat → Nat → Int32) × (Nat → Nat → Int64))
  | 0, _, _, _, _, _, _, _, _ => none
  | n + 1, x1, x2, x3, x4, I, J, A, B =>
    if ((2 : Int32) * (I 32)) ≤ x4 then
    (some (x3, I, J, A, B))
    else
    if ((ushr x2 x4) &&& (1 : Int32)) = 0 then
    (gv (x4 + 1) fun x4_133 =>
    lX1_fallsOf_5 n x1 x2 x3 x4_133 I J A B)
    else
    (sX1_blow (x4 / (2 : Int32)) (x4 - x4 / (2 : Int32) * (2 : Int32)) I J A B).bind fun J =>
    gv (upd I 54 (-1 : Int32)) fun I =>
    ck (inB x1 6) <|
    gv (va_up A 60 (upd (A 60) (ix x1) (0 : Int32))) fun A =>
    (sX1_look x1 I J A B).bind fun (I, A, B) =>
    (lX1_fallsOf_66 FU x1 x2 x3 x4 (0 : Int32) I J A B).bind fun (I, A, B) =>
    gv (if (I 54) = (-1 : Int32) then (0 : Int32) else ((1 : Int32) <<< (x4 &&& 31))) fun v_131 =>
    gv (x3 ||| v_131) fun x3_132 =>
    gv (x4 + 1) fun x4_133 =>
    lX1_fallsOf_5 n x1 x2 x3_132 x4_133 I J A B
def sX1_fallsOf (x1 : Int32) (x2 : Int32) (I : Nat → Int32) (J : Nat → Int64) (A : Nat → Nat → Int32) (B : Nat → Nat → Int64) : Option ((Int32) × (Nat → Int32) × (Nat → Int64) × (Nat → Nat → Int32) × (Nat → Nat → Int64)) :=
(lX1_fallsOf_5 FU x1 x2 (0 : Int32) (0 : Int32) I J A B).bind fun (x3_5, I, J, A, B) =>
some (x3_5, I, J, A, B)
set_option maxRecDepth 100000 in
set_option maxHeartbeats 8000000 in
theorem kX1_fallsOf (l : Launch) (D : va_G) (cy : Nat → ClassId) (P0 : Nat → Prop) (q z : Nat → Nat) (tl : va_W) (xx : (Nat → Option Nat) × (Nat → Option Nat) × Nat) (x1 : Int32) (x2 : Int32) (I : Nat → Int32) (J : Nat → Int64) (A : Nat → Nat → Int32) (B : Nat → Nat → Int64) (r : Int32) (I2 : Nat → Int32) (J2 : Nat → Int64) (A2 : Nat → Nat → Int32) (B2 : Nat → Nat → Int64) (hs : sX1_fallsOf x1 x2 I J A B = some (r, I2, J2, A2, B2)) : McC l yX1_fallsOf cX1_fallsOf 6 (some .int) 3 [.ref (q 2), .int x1, .int x2] D cy P0 q z tl xx I J A B (some (.int r)) xx I2 J2 A2 B2 := by
  refine C_start rfl (Nat.le_of_ble_eq_true rfl) ?_
  intro p e s m args below meth c H locs C hI ls hl
  have hl : lv_has ls 6 [(0, .ref (q 2)), (1, .int x1), (2, .int x2)] := hl
  rw [sX1_fallsOf] at hs
  refine lv_iconst (v := 0) C.1 C.2.1 dX1_fallsOf_0 (by decide) ?_
  refine lv_istore_n (lv' := [(3, .int (0 : Int32)), (0, .ref (q 2)), (1, .int x1), (2, .int x2)]) C.1 C.2.1 dX1_fallsOf_1 rfl hl (by decide) rfl (fun ls hl => ?_)
  refine lv_iconst (v := 0) C.1 C.2.1 dX1_fallsOf_2 (by decide) ?_
  refine lv_istore (lv' := [(4, .int (0 : Int32)), (3, .int (0 : Int32)), (0, .ref (q 2)), (1, .int x1), (2, .int x2)]) C.1 C.2.1 dX1_fallsOf_3 hl (by decide) rfl (fun ls hl => ?_)
  have KL_5 : ∀ (n : Nat) (x1 : Int32) (x2 : Int32) (x3 : Int32) (x4 : Int32) (I : Nat → Int32) (J : Nat → Int64) (A : Nat → Nat → Int32) (B : Nat → Nat → Int64) (o : Int32 × (Nat → Int32) × (Nat → Int64) × (Nat → Nat → Int32) × (Nat → Nat → Int64)) (Q : State → Prop) (H : Heap) (locs : List Loc) (ls : Array Slot), lX1_fallsOf_5 n x1 x2 x3 x4 I J A B = some o → CI D cy s P0 s.heap H locs q z tl xx I J A B → lv_has ls 6 [(0, .ref (q 2)), (1, .int x1), (2, .int x2), (3, .int x3), (4, .int x4)] → (∀ (o3_0 : Int32) (I_0 : Nat → Int32) (J_0 : Nat → Int64) (A_0 : Nat → Nat → Int32) (B_0 : Nat → Nat → Int64) (H : Heap) (locs : List Loc) (ls : Array Slot), o = (o3_0, I_0, J_0, A_0, B_0) → CI D cy s P0 s.heap H locs q z tl xx I_0 J_0 A_0 B_0 → lv_has ls 6 [(3, .int o3_0)] → W p l e (rmL 3) s m args below meth c H locs 0 0 Q (F0 m 139 ls [])) → W p l e (rmL 3) s m args below meth c H locs 0 0 Q (F0 m 5 ls []) := by
    intro n; induction n with
    | zero => intro x1 x2 x3 x4 I J A B o Q H locs ls hs; rw [lX1_fallsOf_5] at hs; cases hs
    | succ n ih =>
      intro x1 x2 x3 x4 I J A B o Q H locs ls hs hI hl kk0
      rw [lX1_fallsOf_5] at hs
      refine lv_iload C.1 C.2.1 dX1_fallsOf_5 (lv_at hl 4 rfl) ?_
      refine lv_iconst (v := 2) C.1 C.2.1 dX1_fallsOf_7 (by decide) ?_
      refine lv_aload_n C.1 C.2.1 dX1_fallsOf_8 rfl (lv_at hl 0 rfl) ?_
      refine cg_X1_50 C hI dX1_fallsOf_9 ?_
      refine cg_X1_17 C hI dX1_fallsOf_12 ?_
      refine cg_X1_32 C hI dX1_fallsOf_15 ?_
      refine lv_imul C.1 C.2.1 dX1_fallsOf_18 ?_
      refine lv_icmp_ge (tgt := 139) C.1 C.2.1 dX1_fallsOf_19 (by decide) (fun cn => ?_) (fun cn => ?_)
      · have hs := if_t cn hs
        have eo := (Option.some.inj hs).symm
        exact kk0 _ _ _ _ _ _ _ _ eo hI (lv_sub hl [3] rfl)
      · have hs := if_f cn hs
        refine lv_iload_n C.1 C.2.1 dX1_fallsOf_22 rfl (lv_at hl 2 rfl) ?_
        refine lv_iload C.1 C.2.1 dX1_fallsOf_23 (lv_at hl 4 rfl) ?_
        refine lv_iushr (v := ushr _ _) C.1 C.2.1 dX1_fallsOf_25 rfl ?_
        refine lv_iconst (v := 1) C.1 C.2.1 dX1_fallsOf_26 (by decide) ?_
        refine lv_iand C.1 C.2.1 dX1_fallsOf_27 ?_
        refine lv_if_ne (tgt := 34) C.1 C.2.1 dX1_fallsOf_28 (by decide) (fun cn => ?_) (fun cn => ?_)
        · have hs := if_f cn hs
          refine lv_aload_n C.1 C.2.1 dX1_fallsOf_34 rfl (lv_at hl 0 rfl) ?_
          refine lv_iload C.1 C.2.1 dX1_fallsOf_35 (lv_at hl 4 rfl) ?_
          refine lv_iconst (v := 2) C.1 C.2.1 dX1_fallsOf_37 (by decide) ?_
          refine lv_idiv C.1 C.2.1 dX1_fallsOf_38 (by decide) ?_
          refine lv_iload C.1 C.2.1 dX1_fallsOf_39 (lv_at hl 4 rfl) ?_
          refine lv_iconst (v := 2) C.1 C.2.1 dX1_fallsOf_41 (by decide) ?_
          refine lv_irem C.1 C.2.1 dX1_fallsOf_42 (by decide) ?_
          obtain ⟨J, hc, hs⟩ := bd_e hs
          refine C_call C hI (kX1_blow l D cy P0 q z tl xx _ _ _ _ _ _ _ hc) (rv_X1 hI) ml_X1_136 im_X1_blow se_X1_blow ini_X1 co_X1_blow hyX1_blow rfl ⟨by decide, by decide⟩ hl.1 rfl (Nat.le_of_ble_eq_true rfl) dX1_fallsOf_43 (fun H locs hI => ?_)
          refine lv_aload_n C.1 C.2.1 dX1_fallsOf_46 rfl (lv_at hl 0 rfl) ?_
          refine lv_iconst (v := -1) C.1 C.2.1 dX1_fallsOf_47 (by decide) ?_
          refine cp_X1_54 C hI dX1_fallsOf_48 (fun H locs hI => ?_)
          have hs := gv_be hs
          refine lv_aload_n C.1 C.2.1 dX1_fallsOf_51 rfl (lv_at hl 0 rfl) ?_
          refine cg_X1_60 C hI dX1_fallsOf_52 ?_
          refine lv_iload_n C.1 C.2.1 dX1_fallsOf_55 rfl (lv_at hl 1 rfl) ?_
          refine lv_iconst (v := 0) C.1 C.2.1 dX1_fallsOf_56 (by decide) ?_
          obtain ⟨hk, hs⟩ := ck_e hs
          refine cs_60 C hI hk dX1_fallsOf_57 (fun H locs hI => ?_)
          have hs := gv_be hs
          refine lv_aload_n C.1 C.2.1 dX1_fallsOf_58 rfl (lv_at hl 0 rfl) ?_
          refine lv_iload_n C.1 C.2.1 dX1_fallsOf_59 rfl (lv_at hl 1 rfl) ?_
          obtain ⟨⟨I, A, B⟩, hc, hs⟩ := bd_e hs
          refine C_call C hI (kX1_look l D cy P0 q z tl xx _ _ _ _ _ _ _ _ hc) (rv_X1 hI) ml_X1_139 im_X1_look se_X1_look ini_X1 co_X1_look hyX1_look rfl ⟨by decide, by decide⟩ hl.1 rfl (Nat.le_of_ble_eq_true rfl) dX1_fallsOf_60 (fun H locs hI => ?_)
          refine lv_iconst (v := 0) C.1 C.2.1 dX1_fallsOf_63 (by decide) ?_
          refine lv_istore (lv' := [(5, .int (0 : Int32)), (0, .ref (q 2)), (1, .int x1), (2, .int x2), (3, .int x3), (4, .int x4)]) C.1 C.2.1 dX1_fallsOf_64 hl (by decide) rfl (fun ls hl => ?_)
          have KL_66 : ∀ (n : Nat) (x1 : Int32) (x2 : Int32) (x3 : Int32) (x4 : Int32) (x5 : Int32) (I : Nat → Int32) (J : Nat → Int64) (A : Nat → Nat → Int32) (B : Nat → Nat → Int64) (o : (Nat → Int32) × (Nat → Nat → Int32) × (Nat → Nat → Int64)) (Q : State → Prop) (H : Heap) (locs : List Loc) (ls : Array Slot), lX1_fallsOf_66 n x1 x2 x3 x4 x5 I J A B = some o → CI D cy s P0 s.heap H locs q z tl xx I J A B → lv_has ls 6 [(0, .ref (q 2)), (1, .int x1), (2, .int x2), (3, .int x3), (4, .int x4), (5, .int x5)] → (∀ (I_0 : Nat → Int32) (A_0 : Nat → Nat → Int32) (B_0 : Nat → Nat → Int64) (H : Heap) (locs : List Loc) (ls : Array Slot), o = (I_0, A_0, B_0) → CI D cy s P0 s.heap H locs q z tl xx I_0 J A_0 B_0 → lv_has ls 6 [(0, .ref (q 2)), (1, .int x1), (2, .int x2), (3, .int x3), (4, .int x4)] → W p l e (rmL 3) s m args below meth c H locs 0 0 Q (F0 m 114 ls [])) → W p l e (rmL 3) s m args below meth c H locs 0 0 Q (F0 m 66 ls []) := by
            intro n; induction n with
            | zero => intro x1 x2 x3 x4 x5 I J A B o Q H locs ls hs; rw [lX1_fallsOf_66] at hs; cases hs
            | succ n ih =>
              intro x1 x2 x3 x4 x5 I J A B o Q H locs ls hs hI hl kk0
              rw [lX1_fallsOf_66] at hs
              refine lv_iload C.1 C.2.1 dX1_fallsOf_66 (lv_at hl 5 rfl) ?_
              refine lv_bipush (v := 8) C.1 C.2.1 dX1_fallsOf_68 (by decide) ?_
              refine lv_icmp_ge (tgt := 114) C.1 C.2.1 dX1_fallsOf_70 (by decide) (fun cn => ?_) (fun cn => ?_)
              · have hs := if_t cn hs
                have eo := (Option.some.inj hs).symm
                exact kk0 _ _ _ _ _ _ eo hI (lv_sub hl [0, 1, 2, 3, 4] rfl)
              · have hs := if_f cn hs
                refine lv_aload_n C.1 C.2.1 dX1_fallsOf_73 rfl (lv_at hl 0 rfl) ?_
                refine cg_X1_61 C hI dX1_fallsOf_74 ?_
                refine lv_iload_n C.1 C.2.1 dX1_fallsOf_77 rfl (lv_at hl 1 rfl) ?_
                obtain ⟨hk, hs⟩ := ck_e hs
                refine ca_61 C hI hk dX1_fallsOf_78 ?_
                refine lv_iconst (v := -1) C.1 C.2.1 dX1_fallsOf_79 (by decide) ?_
                refine lv_icmp_eq (tgt := 114) C.1 C.2.1 dX1_fallsOf_80 (by decide) (fun cn => ?_) (fun cn => ?_)
                · have hs := if_t cn hs
                  have eo := (Option.some.inj hs).symm
                  exact kk0 _ _ _ _ _ _ eo hI (lv_sub hl [0, 1, 2, 3, 4] rfl)
                · have hs := if_f cn hs
                  refine lv_aload_n C.1 C.2.1 dX1_fallsOf_83 rfl (lv_at hl 0 rfl) ?_
                  refine cg_X1_60 C hI dX1_fallsOf_84 ?_
                  refine lv_iload_n C.1 C.2.1 dX1_fallsOf_87 rfl (lv_at hl 1 rfl) ?_
                  refine lv_dup2_11 C.1 C.2.1 dX1_fallsOf_88 rfl rfl ?_
                  obtain ⟨hk, hs⟩ := ck_e hs
                  refine ca_60 C hI hk dX1_fallsOf_89 ?_
                  refine lv_iconst (v := 1) C.1 C.2.1 dX1_fallsOf_90 (by decide) ?_
                  refine lv_aload_n C.1 C.2.1 dX1_fallsOf_91 rfl (lv_at hl 0 rfl) ?_
                  refine cg_X1_61 C hI dX1_fallsOf_92 ?_
                  refine lv_iload_n C.1 C.2.1 dX1_fallsOf_95 rfl (lv_at hl 1 rfl) ?_
                  obtain ⟨hk, hs⟩ := ck_e hs
                  refine ca_61 C hI hk dX1_fallsOf_96 ?_
                  refine lv_bipush (v := 8) C.1 C.2.1 dX1_fallsOf_97 (by decide) ?_
                  refine lv_irem C.1 C.2.1 dX1_fallsOf_99 (by decide) ?_
                  refine lv_ishl C.1 C.2.1 dX1_fallsOf_100 ?_
                  refine lv_ior C.1 C.2.1 dX1_fallsOf_101 ?_
                  obtain ⟨hk, hs⟩ := ck_e hs
                  refine cs_60 C hI hk dX1_fallsOf_102 (fun H locs hI => ?_)
                  have hs := gv_be hs
                  refine lv_aload_n C.1 C.2.1 dX1_fallsOf_103 rfl (lv_at hl 0 rfl) ?_
                  refine lv_iload_n C.1 C.2.1 dX1_fallsOf_104 rfl (lv_at hl 1 rfl) ?_
                  obtain ⟨⟨I, A, B⟩, hc, hs⟩ := bd_e hs
                  refine C_call C hI (kX1_look l D cy P0 q z tl xx _ _ _ _ _ _ _ _ hc) (rv_X1 hI) ml_X1_139 im_X1_look se_X1_look ini_X1 co_X1_look hyX1_look rfl ⟨by decide, by decide⟩ hl.1 rfl (Nat.le_of_ble_eq_true rfl) dX1_fallsOf_105 (fun H locs hI => ?_)
                  obtain ⟨x5_108, ex5_108⟩ : ∃ y : Int32, y = (x5 + 1) := ⟨_, rfl⟩
                  have hs := gv_at ex5_108 hs
                  refine lv_iinc (v := x5_108) (lv' := [(5, .int x5_108), (0, .ref (q 2)), (1, .int x1), (2, .int x2), (3, .int x3), (4, .int x4)]) C.1 C.2.1 dX1_fallsOf_108 hl (k := 5) rfl (by rw [ex5_108]; rfl) (by decide) rfl (fun ls hl => ?_)
                  refine lv_goto (tgt := 66) C.1 C.2.1 dX1_fallsOf_111 (by decide) ?_
                  exact ih _ _ _ _ _ _ _ _ _ _ _ _ _ _ hs hI (lv_sub hl [1, 2, 3, 4, 5, 0] rfl) kk0
          obtain ⟨⟨I_L, A_L, B_L⟩, hL, hs⟩ := bd_e hs
          refine KL_66 FU _ _ _ _ _ _ _ _ _ _ _ _ _ _ hL hI (lv_sub hl [1, 2, 3, 4, 5, 0] rfl) (fun z0 z1 z2 H locs ls eo hI hl => ?_)
          obtain ⟨rfl, rfl, rfl⟩ := pr3 eo
          refine lv_iload_n C.1 C.2.1 dX1_fallsOf_114 rfl (lv_at hl 3 rfl) ?_
          refine lv_aload_n C.1 C.2.1 dX1_fallsOf_115 rfl (lv_at hl 0 rfl) ?_
          refine cg_X1_54 C hI dX1_fallsOf_116 ?_
          refine lv_iconst (v := -1) C.1 C.2.1 dX1_fallsOf_119 (by decide) ?_
          obtain ⟨v_131, ev_131, hs⟩ := gv_ex hs
          have KP_131 : W p l e (rmL 3) s m args below meth c H locs 0 0 Q (F0 m 131 ls [.int v_131, .int x3]) := by
            refine lv_ior C.1 C.2.1 dX1_fallsOf_131 ?_
            refine lv_topi (fun x3_132 ex3_132 => ?_)
            have hs := gv_at ex3_132 hs
            refine lv_istore_n (lv' := [(3, .int x3_132), (0, .ref (q 2)), (1, .int x1), (2, .int x2), (4, .int x4)]) C.1 C.2.1 dX1_fallsOf_132 rfl hl (by decide) rfl (fun ls hl => ?_)
            obtain ⟨x4_133, ex4_133⟩ : ∃ y : Int32, y = (x4 + 1) := ⟨_, rfl⟩
            have hs := gv_at ex4_133 hs
            refine lv_iinc (v := x4_133) (lv' := [(4, .int x4_133), (3, .int x3_132), (0, .ref (q 2)), (1, .int x1), (2, .int x2)]) C.1 C.2.1 dX1_fallsOf_133 hl (k := 4) rfl (by rw [ex4_133]; rfl) (by decide) rfl (fun ls hl => ?_)
            refine lv_goto (tgt := 5) C.1 C.2.1 dX1_fallsOf_136 (by decide) ?_
            exact ih _ _ _ _ _ _ _ _ _ _ _ _ _ hs hI (lv_sub hl [2, 3, 4, 1, 0] rfl) kk0
          refine lv_icmp_ne (tgt := 127) C.1 C.2.1 dX1_fallsOf_120 (by decide) (fun cn => ?_) (fun cn => ?_)
          · have ev_131 := if_f' cn ev_131
            refine lv_iconst (v := 1) C.1 C.2.1 dX1_fallsOf_127 (by decide) ?_
            refine lv_iload C.1 C.2.1 dX1_fallsOf_128 (lv_at hl 4 rfl) ?_
            refine lv_ishl C.1 C.2.1 dX1_fallsOf_130 ?_
            subst ev_131
            exact KP_131
          · have ev_131 := if_t' cn ev_131
            refine lv_iconst (v := 0) C.1 C.2.1 dX1_fallsOf_123 (by decide) ?_
            refine lv_goto (tgt := 131) C.1 C.2.1 dX1_fallsOf_124 (by decide) ?_
            subst ev_131
            exact KP_131
        · have hs := if_t cn hs
          refine lv_goto (tgt := 133) C.1 C.2.1 dX1_fallsOf_31 (by decide) ?_
          obtain ⟨x4_133, ex4_133⟩ : ∃ y : Int32, y = (x4 + 1) := ⟨_, rfl⟩
          have hs := gv_at ex4_133 hs
          refine lv_iinc (v := x4_133) (lv' := [(4, .int x4_133), (0, .ref (q 2)), (1, .int x1), (2, .int x2), (3, .int x3)]) C.1 C.2.1 dX1_fallsOf_133 hl (k := 4) rfl (by rw [ex4_133]; rfl) (by decide) rfl (fun ls hl => ?_)
          refine lv_goto (tgt := 5) C.1 C.2.1 dX1_fallsOf_136 (by decide) ?_
          exact ih _ _ _ _ _ _ _ _ _ _ _ _ _ hs hI (lv_sub hl [1, 2, 3, 4, 0] rfl) kk0
  obtain ⟨⟨x3_5, I_L, J_L, A_L, B_L⟩, hL, hs⟩ := bd_e hs
  refine KL_5 FU _ _ _ _ _ _ _ _ _ _ _ _ _ hL hI (lv_sub hl [2, 3, 4, 1, 0] rfl) (fun z0 z1 z2 z3 z4 H locs ls eo hI hl => ?_)
  obtain ⟨rfl, rfl, rfl, rfl, rfl⟩ := pr5 eo
  refine lv_iload_n C.1 C.2.1 dX1_fallsOf_139 rfl (lv_at hl 0 rfl) ?_
  obtain ⟨rfl, rfl, rfl, rfl, rfl⟩ := so5 hs
  exact C_iret C hI dX1_fallsOf_140

def lX1_stirsOf_12 : Nat → Int32 → Int32 → Int32 → Int32 → (Nat → Int32) → (Nat → Int64) → (Nat → Nat → Int32) → (Nat → Nat → Int64) → Option (Int32 × (Nat → Int32) × (Nat → Int64) × (Nat → Nat → Int32) × (Nat → Nat → Int64))
  | 0, _, _, _, _, _, _, _, _ => none
  | n + 1, x1, x2, x3, x4, I, J, A, B =>
    if ((2 : Int32) * (I 32)) ≤ x4 then
    (some (x3, I, J, A, B))
    else
    if ((ushr x2 x4) &&& (1 : Int32)) = 0 then
    (gv (x4 + 1) fun x4_76 =>
    lX1_stirsOf_12 n x1 x2 x3 x4_76 I J A B)
    else
    (sX1_blow (x4 / (2 : Int32)) (x4 - x4 / (2 : Int32) * (2 : Int32)) I J A B).bind fun J =>
    (sX1_look x1 I J A B).bind fun (I, A, B) =>
    ck (inB x1 6) <|
    gv (if (A 61 (ix x1)) = (-1 : Int32) then (0 : Int32) else ((1 : Int32) <<< (x4 &&& 31))) fun v_74 =>
    gv (x3 ||| v_74) fun x3_75 =>
    gv (x4 + 1) fun x4_76 =>
    lX1_stirsOf_12 n x1 x2 x3_75 x4_76 I J A B
def sX1_stirsOf (x1 : Int32) (x2 : Int32) (I : Nat → Int32) (J : Nat → Int64) (A : Nat → Nat → Int32) (B : Nat → Nat → Int64) : Option ((Int32) × (Nat → Int32) × (Nat → Int64) × (Nat → Nat → Int32) × (Nat → Nat → Int64)) :=
ck (inB x1 6) <|
gv (va_up A 60 (upd (A 60) (ix x1) (0 : Int32))) fun A =>
(lX1_stirsOf_12 FU x1 x2 (0 : Int32) (0 : Int32) I J A B).bind fun (x3_12, I, J, A, B) =>
some (x3_12, I, J, A, B)
set_option maxRecDepth 100000 in
set_option maxHeartbeats 8000000 in
theorem kX1_stirsOf (l : Launch) (D : va_G) (cy : Nat → ClassId) (P0 : Nat → Prop) (q z : Nat → Nat) (tl : va_W) (xx : (Nat → Option Nat) × (Nat → Option Nat) × Nat) (x1 : Int32) (x2 : Int32) (I : Nat → Int32) (J : Nat → Int64) (A : Nat → Nat → Int32) (B : Nat → Nat → Int64) (r : Int32) (I2 : Nat → Int32) (J2 : Nat → Int64) (A2 : Nat → Nat → Int32) (B2 : Nat → Nat → Int64) (hs : sX1_stirsOf x1 x2 I J A B = some (r, I2, J2, A2, B2)) : McC l yX1_stirsOf cX1_stirsOf 5 (some .int) 3 [.ref (q 2), .int x1, .int x2] D cy P0 q z tl xx I J A B (some (.int r)) xx I2 J2 A2 B2 := by
  refine C_start rfl (Nat.le_of_ble_eq_true rfl) ?_
  intro p e s m args below meth c H locs C hI ls hl
  have hl : lv_has ls 5 [(0, .ref (q 2)), (1, .int x1), (2, .int x2)] := hl
  rw [sX1_stirsOf] at hs
  refine lv_iconst (v := 0) C.1 C.2.1 dX1_stirsOf_0 (by decide) ?_
  refine lv_istore_n (lv' := [(3, .int (0 : Int32)), (0, .ref (q 2)), (1, .int x1), (2, .int x2)]) C.1 C.2.1 dX1_stirsOf_1 rfl hl (by decide) rfl (fun ls hl => ?_)
  refine lv_aload_n C.1 C.2.1 dX1_stirsOf_2 rfl (lv_at hl 1 rfl) ?_
  refine cg_X1_60 C hI dX1_stirsOf_3 ?_
  refine lv_iload_n C.1 C.2.1 dX1_stirsOf_6 rfl (lv_at hl 2 rfl) ?_
  refine lv_iconst (v := 0) C.1 C.2.1 dX1_stirsOf_7 (by decide) ?_
  obtain ⟨hk, hs⟩ := ck_e hs
  refine cs_60 C hI hk dX1_stirsOf_8 (fun H locs hI => ?_)
  have hs := gv_be hs
  refine lv_iconst (v := 0) C.1 C.2.1 dX1_stirsOf_9 (by decide) ?_
  refine lv_istore (lv' := [(4, .int (0 : Int32)), (3, .int (0 : Int32)), (0, .ref (q 2)), (1, .int x1), (2, .int x2)]) C.1 C.2.1 dX1_stirsOf_10 hl (by decide) rfl (fun ls hl => ?_)
  have KL_12 : ∀ (n : Nat) (x1 : Int32) (x2 : Int32) (x3 : Int32) (x4 : Int32) (I : Nat → Int32) (J : Nat → Int64) (A : Nat → Nat → Int32) (B : Nat → Nat → Int64) (o : Int32 × (Nat → Int32) × (Nat → Int64) × (Nat → Nat → Int32) × (Nat → Nat → Int64)) (Q : State → Prop) (H : Heap) (locs : List Loc) (ls : Array Slot), lX1_stirsOf_12 n x1 x2 x3 x4 I J A B = some o → CI D cy s P0 s.heap H locs q z tl xx I J A B → lv_has ls 5 [(0, .ref (q 2)), (1, .int x1), (2, .int x2), (3, .int x3), (4, .int x4)] → (∀ (o3_0 : Int32) (I_0 : Nat → Int32) (J_0 : Nat → Int64) (A_0 : Nat → Nat → Int32) (B_0 : Nat → Nat → Int64) (H : Heap) (locs : List Loc) (ls : Array Slot), o = (o3_0, I_0, J_0, A_0, B_0) → CI D cy s P0 s.heap H locs q z tl xx I_0 J_0 A_0 B_0 → lv_has ls 5 [(3, .int o3_0)] → W p l e (rmL 3) s m args below meth c H locs 0 0 Q (F0 m 82 ls [])) → W p l e (rmL 3) s m args below meth c H locs 0 0 Q (F0 m 12 ls []) := by
    intro n; induction n with
    | zero => intro x1 x2 x3 x4 I J A B o Q H locs ls hs; rw [lX1_stirsOf_12] at hs; cases hs
    | succ n ih =>
      intro x1 x2 x3 x4 I J A B o Q H locs ls hs hI hl kk0
      rw [lX1_stirsOf_12] at hs
      refine lv_iload C.1 C.2.1 dX1_stirsOf_12 (lv_at hl 4 rfl) ?_
      refine lv_iconst (v := 2) C.1 C.2.1 dX1_stirsOf_14 (by decide) ?_
      refine lv_aload_n C.1 C.2.1 dX1_stirsOf_15 rfl (lv_at hl 0 rfl) ?_
      refine cg_X1_50 C hI dX1_stirsOf_16 ?_
      refine cg_X1_17 C hI dX1_stirsOf_19 ?_
      refine cg_X1_32 C hI dX1_stirsOf_22 ?_
      refine lv_imul C.1 C.2.1 dX1_stirsOf_25 ?_
      refine lv_icmp_ge (tgt := 82) C.1 C.2.1 dX1_stirsOf_26 (by decide) (fun cn => ?_) (fun cn => ?_)
      · have hs := if_t cn hs
        have eo := (Option.some.inj hs).symm
        exact kk0 _ _ _ _ _ _ _ _ eo hI (lv_sub hl [3] rfl)
      · have hs := if_f cn hs
        refine lv_iload_n C.1 C.2.1 dX1_stirsOf_29 rfl (lv_at hl 2 rfl) ?_
        refine lv_iload C.1 C.2.1 dX1_stirsOf_30 (lv_at hl 4 rfl) ?_
        refine lv_iushr (v := ushr _ _) C.1 C.2.1 dX1_stirsOf_32 rfl ?_
        refine lv_iconst (v := 1) C.1 C.2.1 dX1_stirsOf_33 (by decide) ?_
        refine lv_iand C.1 C.2.1 dX1_stirsOf_34 ?_
        refine lv_if_eq (tgt := 76) C.1 C.2.1 dX1_stirsOf_35 (by decide) (fun cn => ?_) (fun cn => ?_)
        · have hs := if_t cn hs
          obtain ⟨x4_76, ex4_76⟩ : ∃ y : Int32, y = (x4 + 1) := ⟨_, rfl⟩
          have hs := gv_at ex4_76 hs
          refine lv_iinc (v := x4_76) (lv' := [(4, .int x4_76), (0, .ref (q 2)), (1, .int x1), (2, .int x2), (3, .int x3)]) C.1 C.2.1 dX1_stirsOf_76 hl (k := 4) rfl (by rw [ex4_76]; rfl) (by decide) rfl (fun ls hl => ?_)
          refine lv_goto (tgt := 12) C.1 C.2.1 dX1_stirsOf_79 (by decide) ?_
          exact ih _ _ _ _ _ _ _ _ _ _ _ _ _ hs hI (lv_sub hl [1, 2, 3, 4, 0] rfl) kk0
        · have hs := if_f cn hs
          refine lv_aload_n C.1 C.2.1 dX1_stirsOf_38 rfl (lv_at hl 0 rfl) ?_
          refine lv_iload C.1 C.2.1 dX1_stirsOf_39 (lv_at hl 4 rfl) ?_
          refine lv_iconst (v := 2) C.1 C.2.1 dX1_stirsOf_41 (by decide) ?_
          refine lv_idiv C.1 C.2.1 dX1_stirsOf_42 (by decide) ?_
          refine lv_iload C.1 C.2.1 dX1_stirsOf_43 (lv_at hl 4 rfl) ?_
          refine lv_iconst (v := 2) C.1 C.2.1 dX1_stirsOf_45 (by decide) ?_
          refine lv_irem C.1 C.2.1 dX1_stirsOf_46 (by decide) ?_
          obtain ⟨J, hc, hs⟩ := bd_e hs
          refine C_call C hI (kX1_blow l D cy P0 q z tl xx _ _ _ _ _ _ _ hc) (rv_X1 hI) ml_X1_136 im_X1_blow se_X1_blow ini_X1 co_X1_blow hyX1_blow rfl ⟨by decide, by decide⟩ hl.1 rfl (Nat.le_of_ble_eq_true rfl) dX1_stirsOf_47 (fun H locs hI => ?_)
          refine lv_aload_n C.1 C.2.1 dX1_stirsOf_50 rfl (lv_at hl 0 rfl) ?_
          refine lv_iload_n C.1 C.2.1 dX1_stirsOf_51 rfl (lv_at hl 1 rfl) ?_
          obtain ⟨⟨I, A, B⟩, hc, hs⟩ := bd_e hs
          refine C_call C hI (kX1_look l D cy P0 q z tl xx _ _ _ _ _ _ _ _ hc) (rv_X1 hI) ml_X1_139 im_X1_look se_X1_look ini_X1 co_X1_look hyX1_look rfl ⟨by decide, by decide⟩ hl.1 rfl (Nat.le_of_ble_eq_true rfl) dX1_stirsOf_52 (fun H locs hI => ?_)
          refine lv_iload_n C.1 C.2.1 dX1_stirsOf_55 rfl (lv_at hl 3 rfl) ?_
          refine lv_aload_n C.1 C.2.1 dX1_stirsOf_56 rfl (lv_at hl 0 rfl) ?_
          refine cg_X1_61 C hI dX1_stirsOf_57 ?_
          refine lv_iload_n C.1 C.2.1 dX1_stirsOf_60 rfl (lv_at hl 1 rfl) ?_
          obtain ⟨hk, hs⟩ := ck_e hs
          refine ca_61 C hI hk dX1_stirsOf_61 ?_
          refine lv_iconst (v := -1) C.1 C.2.1 dX1_stirsOf_62 (by decide) ?_
          obtain ⟨v_74, ev_74, hs⟩ := gv_ex hs
          have KP_74 : W p l e (rmL 3) s m args below meth c H locs 0 0 Q (F0 m 74 ls [.int v_74, .int x3]) := by
            refine lv_ior C.1 C.2.1 dX1_stirsOf_74 ?_
            refine lv_topi (fun x3_75 ex3_75 => ?_)
            have hs := gv_at ex3_75 hs
            refine lv_istore_n (lv' := [(3, .int x3_75), (0, .ref (q 2)), (1, .int x1), (2, .int x2), (4, .int x4)]) C.1 C.2.1 dX1_stirsOf_75 rfl hl (by decide) rfl (fun ls hl => ?_)
            obtain ⟨x4_76, ex4_76⟩ : ∃ y : Int32, y = (x4 + 1) := ⟨_, rfl⟩
            have hs := gv_at ex4_76 hs
            refine lv_iinc (v := x4_76) (lv' := [(4, .int x4_76), (3, .int x3_75), (0, .ref (q 2)), (1, .int x1), (2, .int x2)]) C.1 C.2.1 dX1_stirsOf_76 hl (k := 4) rfl (by rw [ex4_76]; rfl) (by decide) rfl (fun ls hl => ?_)
            refine lv_goto (tgt := 12) C.1 C.2.1 dX1_stirsOf_79 (by decide) ?_
            exact ih _ _ _ _ _ _ _ _ _ _ _ _ _ hs hI (lv_sub hl [2, 3, 4, 1, 0] rfl) kk0
          refine lv_icmp_ne (tgt := 70) C.1 C.2.1 dX1_stirsOf_63 (by decide) (fun cn => ?_) (fun cn => ?_)
          · have ev_74 := if_f' cn ev_74
            refine lv_iconst (v := 1) C.1 C.2.1 dX1_stirsOf_70 (by decide) ?_
            refine lv_iload C.1 C.2.1 dX1_stirsOf_71 (lv_at hl 4 rfl) ?_
            refine lv_ishl C.1 C.2.1 dX1_stirsOf_73 ?_
            subst ev_74
            exact KP_74
          · have ev_74 := if_t' cn ev_74
            refine lv_iconst (v := 0) C.1 C.2.1 dX1_stirsOf_66 (by decide) ?_
            refine lv_goto (tgt := 74) C.1 C.2.1 dX1_stirsOf_67 (by decide) ?_
            subst ev_74
            exact KP_74
  obtain ⟨⟨x3_12, I_L, J_L, A_L, B_L⟩, hL, hs⟩ := bd_e hs
  refine KL_12 FU _ _ _ _ _ _ _ _ _ _ _ _ _ hL hI (lv_sub hl [2, 3, 4, 1, 0] rfl) (fun z0 z1 z2 z3 z4 H locs ls eo hI hl => ?_)
  obtain ⟨rfl, rfl, rfl, rfl, rfl⟩ := pr5 eo
  refine lv_iload_n C.1 C.2.1 dX1_stirsOf_82 rfl (lv_at hl 0 rfl) ?_
  obtain ⟨rfl, rfl, rfl, rfl, rfl⟩ := so5 hs
  exact C_iret C hI dX1_stirsOf_83

def lX1_facesAreEnoughForAll_2 : Nat → Int32 → (Nat → Int32) → (Nat → Int64) → (Nat → Nat → Int32) → (Nat → Nat → Int64) → Option (((Nat → Int64) × (Nat → Nat → Int32) × (Nat → Nat → Int64)) ⊕ ((Nat → Int64) × (Nat → Nat → Int32) × (Nat → Nat → Int64)))
  | 0, _, _, _, _, _ => none
  | n + 1, x1, I, J, A, B =>
    if (48 : Int32) ≤ x1 then
    (some (.inr (J, A, B)))
    else
    (sX1_facesAreEnough x1 I J A B).bind fun (r_10, J, A, B) =>
    if r_10 = 0 then
    (some (.inl (J, A, B)))
    else
    gv (x1 + 1) fun x1_18 =>
    lX1_facesAreEnoughForAll_2 n x1_18 I J A B
def sX1_facesAreEnoughForAll (I : Nat → Int32) (J : Nat → Int64) (A : Nat → Nat → Int32) (B : Nat → Nat → Int64) : Option ((Int32) × (Nat → Int64) × (Nat → Nat → Int32) × (Nat → Nat → Int64)) :=
(lX1_facesAreEnoughForAll_2 FU (0 : Int32) I J A B).bind fun o_2 => match o_2 with
| .inl (J, A, B) =>
some ((0 : Int32), J, A, B)
| .inr (J, A, B) =>
some ((1 : Int32), J, A, B)
set_option maxRecDepth 100000 in
set_option maxHeartbeats 8000000 in
theorem kX1_facesAreEnoughForAll (l : Launch) (D : va_G) (cy : Nat → ClassId) (P0 : Nat → Prop) (q z : Nat → Nat) (tl : va_W) (xx : (Nat → Option Nat) × (Nat → Option Nat) × Nat) (I : Nat → Int32) (J : Nat → Int64) (A : Nat → Nat → Int32) (B : Nat → Nat → Int64) (r : Int32) (J2 : Nat → Int64) (A2 : Nat → Nat → Int32) (B2 : Nat → Nat → Int64) (hs : sX1_facesAreEnoughForAll I J A B = some (r, J2, A2, B2)) : McC l yX1_facesAreEnoughForAll cX1_facesAreEnoughForAll 2 (some .boolean) 3 [.ref (q 2)] D cy P0 q z tl xx I J A B (some (.int r)) xx I J2 A2 B2 := by
  refine C_start rfl (Nat.le_of_ble_eq_true rfl) ?_
  intro p e s m args below meth c H locs C hI ls hl
  have hl : lv_has ls 2 [(0, .ref (q 2))] := hl
  rw [sX1_facesAreEnoughForAll] at hs
  refine lv_iconst (v := 0) C.1 C.2.1 dX1_facesAreEnoughForAll_0 (by decide) ?_
  refine lv_istore_n (lv' := [(1, .int (0 : Int32)), (0, .ref (q 2))]) C.1 C.2.1 dX1_facesAreEnoughForAll_1 rfl hl (by decide) rfl (fun ls hl => ?_)
  have KL_2 : ∀ (n : Nat) (x1 : Int32) (I : Nat → Int32) (J : Nat → Int64) (A : Nat → Nat → Int32) (B : Nat → Nat → Int64) (o : ((Nat → Int64) × (Nat → Nat → Int32) × (Nat → Nat → Int64)) ⊕ ((Nat → Int64) × (Nat → Nat → Int32) × (Nat → Nat → Int64))) (Q : State → Prop) (H : Heap) (locs : List Loc) (ls : Array Slot), lX1_facesAreEnoughForAll_2 n x1 I J A B = some o → CI D cy s P0 s.heap H locs q z tl xx I J A B → lv_has ls 2 [(0, .ref (q 2)), (1, .int x1)] → (∀ (J_0 : Nat → Int64) (A_0 : Nat → Nat → Int32) (B_0 : Nat → Nat → Int64) (H : Heap) (locs : List Loc) (ls : Array Slot), o = (.inl (J_0, A_0, B_0)) → CI D cy s P0 s.heap H locs q z tl xx I J_0 A_0 B_0 → lv_has ls 2 [] → W p l e (rmL 3) s m args below meth c H locs 0 0 Q (F0 m 16 ls [])) → (∀ (J_1 : Nat → Int64) (A_1 : Nat → Nat → Int32) (B_1 : Nat → Nat → Int64) (H : Heap) (locs : List Loc) (ls : Array Slot), o = (.inr (J_1, A_1, B_1)) → CI D cy s P0 s.heap H locs q z tl xx I J_1 A_1 B_1 → lv_has ls 2 [] → W p l e (rmL 3) s m args below meth c H locs 0 0 Q (F0 m 24 ls [])) → W p l e (rmL 3) s m args below meth c H locs 0 0 Q (F0 m 2 ls []) := by
    intro n; induction n with
    | zero => intro x1 I J A B o Q H locs ls hs; rw [lX1_facesAreEnoughForAll_2] at hs; cases hs
    | succ n ih =>
      intro x1 I J A B o Q H locs ls hs hI hl kk0 kk1
      rw [lX1_facesAreEnoughForAll_2] at hs
      refine lv_iload_n C.1 C.2.1 dX1_facesAreEnoughForAll_2 rfl (lv_at hl 1 rfl) ?_
      refine lv_bipush (v := 48) C.1 C.2.1 dX1_facesAreEnoughForAll_3 (by decide) ?_
      refine lv_icmp_ge (tgt := 24) C.1 C.2.1 dX1_facesAreEnoughForAll_5 (by decide) (fun cn => ?_) (fun cn => ?_)
      · have hs := if_t cn hs
        have eo := (Option.some.inj hs).symm
        exact kk1 _ _ _ _ _ _ eo hI (lv_sub hl [] rfl)
      · have hs := if_f cn hs
        refine lv_aload_n C.1 C.2.1 dX1_facesAreEnoughForAll_8 rfl (lv_at hl 0 rfl) ?_
        refine lv_iload_n C.1 C.2.1 dX1_facesAreEnoughForAll_9 rfl (lv_at hl 1 rfl) ?_
        obtain ⟨⟨r_10, J, A, B⟩, hc, hs⟩ := bd_e hs
        refine C_call C hI (kX1_facesAreEnough l D cy P0 q z tl xx _ _ _ _ _ _ _ _ _ hc) (rv_X1 hI) ml_X1_165 im_X1_facesAreEnough se_X1_facesAreEnough ini_X1 co_X1_facesAreEnough hyX1_facesAreEnough rfl ⟨by decide, by decide⟩ hl.1 rfl (Nat.le_of_ble_eq_true rfl) dX1_facesAreEnoughForAll_10 (fun H locs hI => ?_)
        refine lv_if_ne (tgt := 18) C.1 C.2.1 dX1_facesAreEnoughForAll_13 (by decide) (fun cn => ?_) (fun cn => ?_)
        · have hs := if_f cn hs
          obtain ⟨x1_18, ex1_18⟩ : ∃ y : Int32, y = (x1 + 1) := ⟨_, rfl⟩
          have hs := gv_at ex1_18 hs
          refine lv_iinc (v := x1_18) (lv' := [(1, .int x1_18), (0, .ref (q 2))]) C.1 C.2.1 dX1_facesAreEnoughForAll_18 hl (k := 1) rfl (by rw [ex1_18]; rfl) (by decide) rfl (fun ls hl => ?_)
          refine lv_goto (tgt := 2) C.1 C.2.1 dX1_facesAreEnoughForAll_21 (by decide) ?_
          exact ih _ _ _ _ _ _ _ _ _ _ hs hI (lv_sub hl [1, 0] rfl) kk0 kk1
        · have hs := if_t cn hs
          have eo := (Option.some.inj hs).symm
          exact kk0 _ _ _ _ _ _ eo hI (lv_sub hl [] rfl)
  obtain ⟨o_2, hL, hs⟩ := bd_e hs
  refine KL_2 FU _ _ _ _ _ _ _ _ _ _ hL hI (lv_sub hl [1, 0] rfl) (fun J A B H locs ls eo hI hl => ?_) (fun J A B H locs ls eo hI hl => ?_)
  · rw [eo] at hs
    refine lv_iconst (v := 0) C.1 C.2.1 dX1_facesAreEnoughForAll_16 (by decide) ?_
    obtain ⟨rfl, rfl, rfl, rfl⟩ := so4 hs
    exact C_zret C hI (by decide) dX1_facesAreEnoughForAll_17
  · rw [eo] at hs
    refine lv_iconst (v := 1) C.1 C.2.1 dX1_facesAreEnoughForAll_24 (by decide) ?_
    obtain ⟨rfl, rfl, rfl, rfl⟩ := so4 hs
    exact C_zret C hI (by decide) dX1_facesAreEnoughForAll_25

def sX7_tension (x1 : Int32) (x2 : Int32) (x3 : Int32) (I : Nat → Int32) (J : Nat → Int64) (A : Nat → Nat → Int32) (B : Nat → Nat → Int64) : Option ((Int64) × (Nat → Int32) × (Nat → Int64) × (Nat → Nat → Int32) × (Nat → Nat → Int64)) :=
(sX7_isBlowing x1 x3 I J A B).bind fun r_3 =>
if r_3 = 0 then
(some ((-1000000000000 : Int64), I, J, A, B))
else
(sX7_isJoint x2).bind fun r_10 =>
if r_10 = 0 then
(some ((-1000000000000 : Int64), I, J, A, B))
else
(sX1_ready  I J A B).bind fun (I, A) =>
(sX1_blow x1 x3 I J A B).bind fun J =>
(sX1_stands (x2 / (8 : Int32)) (0 : Int32) I J A B).bind fun (r_45, A, B) =>
if r_45 = 0 then
(some ((-1000000000000 : Int64), I, J, A, B))
else
(sX1_thousandths x2 I J A B).bind fun r_60 =>
some (r_60, I, J, A, B)
set_option maxRecDepth 100000 in
set_option maxHeartbeats 8000000 in
theorem kX7_tension (l : Launch) (D : va_G) (cy : Nat → ClassId) (P0 : Nat → Prop) (q z : Nat → Nat) (tl : va_W) (xx : (Nat → Option Nat) × (Nat → Option Nat) × Nat) (x1 : Int32) (x2 : Int32) (x3 : Int32) (I : Nat → Int32) (J : Nat → Int64) (A : Nat → Nat → Int32) (B : Nat → Nat → Int64) (r : Int64) (I2 : Nat → Int32) (J2 : Nat → Int64) (A2 : Nat → Nat → Int32) (B2 : Nat → Nat → Int64) (hs : sX7_tension x1 x2 x3 I J A B = some (r, I2, J2, A2, B2)) : McC l yX7_tension cX7_tension 4 (some .long) 3 [.ref (q 99), .int x1, .int x2, .int x3] D cy P0 q z tl xx I J A B (some (.long r)) xx I2 J2 A2 B2 := by
  refine C_start rfl (Nat.le_of_ble_eq_true rfl) ?_
  intro p e s m args below meth c H locs C hI ls hl
  have hl : lv_has ls 4 [(0, .ref (q 99)), (1, .int x1), (2, .int x2), (3, .int x3)] := hl
  rw [sX7_tension] at hs
  refine lv_aload_n C.1 C.2.1 dX7_tension_0 rfl (lv_at hl 0 rfl) ?_
  refine lv_iload_n C.1 C.2.1 dX7_tension_1 rfl (lv_at hl 1 rfl) ?_
  refine lv_iload_n C.1 C.2.1 dX7_tension_2 rfl (lv_at hl 3 rfl) ?_
  obtain ⟨r_3, hc, hs⟩ := bd_e hs
  refine C_call C hI (kX7_isBlowing l D cy P0 q z tl xx _ _ _ _ _ _ _ hc) (rv_X7 hI) ml_X7_133 im_X7_isBlowing se_X7_isBlowing ini_X7 co_X7_isBlowing hyX7_isBlowing rfl ⟨by decide, by decide⟩ hl.1 rfl (Nat.le_of_ble_eq_true rfl) dX7_tension_3 (fun H locs hI => ?_)
  refine lv_if_eq (tgt := 16) C.1 C.2.1 dX7_tension_6 (by decide) (fun cn => ?_) (fun cn => ?_)
  · have hs := if_t cn hs
    refine lv_ldc2 C.1 C.2.1 C.2.2.2.1 (C.2.2.2.2.1 _ kl_X7_137) dX7_tension_16 ?_
    obtain ⟨rfl, rfl, rfl, rfl, rfl⟩ := so5 hs
    exact C_lret C hI dX7_tension_19
  · have hs := if_f cn hs
    refine lv_iload_n C.1 C.2.1 dX7_tension_9 rfl (lv_at hl 2 rfl) ?_
    obtain ⟨r_10, hc, hs⟩ := bd_e hs
    refine S_call (h := 3) C (kX7_isJoint l _ _ hc) ml_X7_66 st_X7_isJoint ini_X7 co_X7_isJoint hyX7_isJoint rfl ⟨by decide, by decide⟩ hl.1 rfl (Nat.le_of_ble_eq_true rfl) dX7_tension_10 ⟨Nat.le_refl 0, Nat.le_refl 0, Nat.le_refl _, Nat.le_refl _⟩ ?_
    refine lv_if_ne (tgt := 20) C.1 C.2.1 dX7_tension_13 (by decide) (fun cn => ?_) (fun cn => ?_)
    · have hs := if_f cn hs
      refine lv_aload_n C.1 C.2.1 dX7_tension_20 rfl (lv_at hl 0 rfl) ?_
      refine cg_X7_2 C hI dX7_tension_21 ?_
      obtain ⟨⟨I, A⟩, hc, hs⟩ := bd_e hs
      refine C_call C hI (kX1_ready l D cy P0 q z tl xx _ _ _ _ _ _ hc) (rv_X1 hI) ml_X7_139 im_X1_ready se_X1_ready ini_X1 co_X1_ready hyX1_ready rfl ⟨by decide, by decide⟩ hl.1 rfl (Nat.le_of_ble_eq_true rfl) dX7_tension_24 (fun H locs hI => ?_)
      refine lv_aload_n C.1 C.2.1 dX7_tension_27 rfl (lv_at hl 0 rfl) ?_
      refine cg_X7_2 C hI dX7_tension_28 ?_
      refine lv_iload_n C.1 C.2.1 dX7_tension_31 rfl (lv_at hl 1 rfl) ?_
      refine lv_iload_n C.1 C.2.1 dX7_tension_32 rfl (lv_at hl 3 rfl) ?_
      obtain ⟨J, hc, hs⟩ := bd_e hs
      refine C_call C hI (kX1_blow l D cy P0 q z tl xx _ _ _ _ _ _ _ hc) (rv_X1 hI) ml_X7_142 im_X1_blow se_X1_blow ini_X1 co_X1_blow hyX1_blow rfl ⟨by decide, by decide⟩ hl.1 rfl (Nat.le_of_ble_eq_true rfl) dX7_tension_33 (fun H locs hI => ?_)
      refine lv_aload_n C.1 C.2.1 dX7_tension_36 rfl (lv_at hl 0 rfl) ?_
      refine cg_X7_2 C hI dX7_tension_37 ?_
      refine lv_iload_n C.1 C.2.1 dX7_tension_40 rfl (lv_at hl 2 rfl) ?_
      refine lv_bipush (v := 8) C.1 C.2.1 dX7_tension_41 (by decide) ?_
      refine lv_idiv C.1 C.2.1 dX7_tension_43 (by decide) ?_
      refine lv_iconst (v := 0) C.1 C.2.1 dX7_tension_44 (by decide) ?_
      obtain ⟨⟨r_45, A, B⟩, hc, hs⟩ := bd_e hs
      refine C_call C hI (kX1_stands l D cy P0 q z tl xx _ _ _ _ _ _ _ _ _ hc) (rv_X1 hI) ml_X7_145 im_X1_stands se_X1_stands ini_X1 co_X1_stands hyX1_stands rfl ⟨by decide, by decide⟩ hl.1 rfl (Nat.le_of_ble_eq_true rfl) dX7_tension_45 (fun H locs hI => ?_)
      refine lv_if_ne (tgt := 55) C.1 C.2.1 dX7_tension_48 (by decide) (fun cn => ?_) (fun cn => ?_)
      · have hs := if_f cn hs
        refine lv_aload_n C.1 C.2.1 dX7_tension_55 rfl (lv_at hl 0 rfl) ?_
        refine cg_X7_2 C hI dX7_tension_56 ?_
        refine lv_iload_n C.1 C.2.1 dX7_tension_59 rfl (lv_at hl 2 rfl) ?_
        obtain ⟨r_60, hc, hs⟩ := bd_e hs
        refine C_call C hI (kX1_thousandths l D cy P0 q z tl xx _ _ _ _ _ _ hc) (rv_X1 hI) ml_X7_148 im_X1_thousandths se_X1_thousandths ini_X1 co_X1_thousandths hyX1_thousandths rfl ⟨by decide, by decide⟩ hl.1 rfl (Nat.le_of_ble_eq_true rfl) dX7_tension_60 (fun H locs hI => ?_)
        obtain ⟨rfl, rfl, rfl, rfl, rfl⟩ := so5 hs
        exact C_lret C hI dX7_tension_63
      · have hs := if_t cn hs
        refine lv_ldc2 C.1 C.2.1 C.2.2.2.1 (C.2.2.2.2.1 _ kl_X7_137) dX7_tension_51 ?_
        obtain ⟨rfl, rfl, rfl, rfl, rfl⟩ := so5 hs
        exact C_lret C hI dX7_tension_54
    · have hs := if_t cn hs
      refine lv_ldc2 C.1 C.2.1 C.2.2.2.1 (C.2.2.2.2.1 _ kl_X7_137) dX7_tension_16 ?_
      obtain ⟨rfl, rfl, rfl, rfl, rfl⟩ := so5 hs
      exact C_lret C hI dX7_tension_19

def sX7_enough (x1 : Int32) (I : Nat → Int32) (J : Nat → Int64) (A : Nat → Nat → Int32) (B : Nat → Nat → Int64) : Option ((Int32) × (Nat → Int32) × (Nat → Int64) × (Nat → Nat → Int32) × (Nat → Nat → Int64)) :=
(sX7_isJoint x1).bind fun r_1 =>
if r_1 = 0 then
(some ((-1 : Int32), I, J, A, B))
else
(sX1_ready  I J A B).bind fun (I, A) =>
(sX1_facesAreEnough x1 I J A B).bind fun (r_21, J, A, B) =>
gv (if r_21 = 0 then (0 : Int32) else (1 : Int32)) fun v_32 =>
some (v_32, I, J, A, B)
set_option maxRecDepth 100000 in
set_option maxHeartbeats 8000000 in
theorem kX7_enough (l : Launch) (D : va_G) (cy : Nat → ClassId) (P0 : Nat → Prop) (q z : Nat → Nat) (tl : va_W) (xx : (Nat → Option Nat) × (Nat → Option Nat) × Nat) (x1 : Int32) (I : Nat → Int32) (J : Nat → Int64) (A : Nat → Nat → Int32) (B : Nat → Nat → Int64) (r : Int32) (I2 : Nat → Int32) (J2 : Nat → Int64) (A2 : Nat → Nat → Int32) (B2 : Nat → Nat → Int64) (hs : sX7_enough x1 I J A B = some (r, I2, J2, A2, B2)) : McC l yX7_enough cX7_enough 2 (some .int) 3 [.ref (q 99), .int x1] D cy P0 q z tl xx I J A B (some (.int r)) xx I2 J2 A2 B2 := by
  refine C_start rfl (Nat.le_of_ble_eq_true rfl) ?_
  intro p e s m args below meth c H locs C hI ls hl
  have hl : lv_has ls 2 [(0, .ref (q 99)), (1, .int x1)] := hl
  rw [sX7_enough] at hs
  refine lv_iload_n C.1 C.2.1 dX7_enough_0 rfl (lv_at hl 1 rfl) ?_
  obtain ⟨r_1, hc, hs⟩ := bd_e hs
  refine S_call (h := 3) C (kX7_isJoint l _ _ hc) ml_X7_66 st_X7_isJoint ini_X7 co_X7_isJoint hyX7_isJoint rfl ⟨by decide, by decide⟩ hl.1 rfl (Nat.le_of_ble_eq_true rfl) dX7_enough_1 ⟨Nat.le_refl 0, Nat.le_refl 0, Nat.le_refl _, Nat.le_refl _⟩ ?_
  refine lv_if_ne (tgt := 9) C.1 C.2.1 dX7_enough_4 (by decide) (fun cn => ?_) (fun cn => ?_)
  · have hs := if_f cn hs
    refine lv_aload_n C.1 C.2.1 dX7_enough_9 rfl (lv_at hl 0 rfl) ?_
    refine cg_X7_2 C hI dX7_enough_10 ?_
    obtain ⟨⟨I, A⟩, hc, hs⟩ := bd_e hs
    refine C_call C hI (kX1_ready l D cy P0 q z tl xx _ _ _ _ _ _ hc) (rv_X1 hI) ml_X7_139 im_X1_ready se_X1_ready ini_X1 co_X1_ready hyX1_ready rfl ⟨by decide, by decide⟩ hl.1 rfl (Nat.le_of_ble_eq_true rfl) dX7_enough_13 (fun H locs hI => ?_)
    refine lv_aload_n C.1 C.2.1 dX7_enough_16 rfl (lv_at hl 0 rfl) ?_
    refine cg_X7_2 C hI dX7_enough_17 ?_
    refine lv_iload_n C.1 C.2.1 dX7_enough_20 rfl (lv_at hl 1 rfl) ?_
    obtain ⟨⟨r_21, J, A, B⟩, hc, hs⟩ := bd_e hs
    refine C_call C hI (kX1_facesAreEnough l D cy P0 q z tl xx _ _ _ _ _ _ _ _ _ hc) (rv_X1 hI) ml_X7_264 im_X1_facesAreEnough se_X1_facesAreEnough ini_X1 co_X1_facesAreEnough hyX1_facesAreEnough rfl ⟨by decide, by decide⟩ hl.1 rfl (Nat.le_of_ble_eq_true rfl) dX7_enough_21 (fun H locs hI => ?_)
    obtain ⟨v_32, ev_32, hs⟩ := gv_ex hs
    have KP_32 : W p l e (rmL 3) s m args below meth c H locs 0 0 (MQ below (cQ D cy P0 q tl (some (.int r)) xx I2 J2 A2 B2) args s 0 0 P0) (F0 m 32 ls [.int v_32]) := by
      obtain ⟨rfl, rfl, rfl, rfl, rfl⟩ := so5 hs
      exact C_iret C hI dX7_enough_32
    refine lv_if_eq (tgt := 31) C.1 C.2.1 dX7_enough_24 (by decide) (fun cn => ?_) (fun cn => ?_)
    · have ev_32 := if_t' cn ev_32
      refine lv_iconst (v := 0) C.1 C.2.1 dX7_enough_31 (by decide) ?_
      subst ev_32
      exact KP_32
    · have ev_32 := if_f' cn ev_32
      refine lv_iconst (v := 1) C.1 C.2.1 dX7_enough_27 (by decide) ?_
      refine lv_goto (tgt := 32) C.1 C.2.1 dX7_enough_28 (by decide) ?_
      subst ev_32
      exact KP_32
  · have hs := if_t cn hs
    refine lv_iconst (v := -1) C.1 C.2.1 dX7_enough_7 (by decide) ?_
    obtain ⟨rfl, rfl, rfl, rfl, rfl⟩ := so5 hs
    exact C_iret C hI dX7_enough_8

def sX7_call (x1 : Int32) (I : Nat → Int32) (J : Nat → Int64) (A : Nat → Nat → Int32) (B : Nat → Nat → Int64) : Option ((Int32)) :=
(sX7_isWithin x1 (0 : Int32) (100 : Int32)).bind fun r_4 =>
if r_4 = 0 then
(some (-1 : Int32))
else
(sX4_costAt x1 I J A B).bind fun r_15 =>
some r_15
set_option maxRecDepth 100000 in
set_option maxHeartbeats 8000000 in
theorem kX7_call (l : Launch) (D : va_G) (cy : Nat → ClassId) (P0 : Nat → Prop) (q z : Nat → Nat) (tl : va_W) (xx : (Nat → Option Nat) × (Nat → Option Nat) × Nat) (x1 : Int32) (I : Nat → Int32) (J : Nat → Int64) (A : Nat → Nat → Int32) (B : Nat → Nat → Int64) (r : Int32) (hs : sX7_call x1 I J A B = some r) : McC l yX7_call cX7_call 2 (some .int) 3 [.ref (q 99), .int x1] D cy P0 q z tl xx I J A B (some (.int r)) xx I J A B := by
  refine C_start rfl (Nat.le_of_ble_eq_true rfl) ?_
  intro p e s m args below meth c H locs C hI ls hl
  have hl : lv_has ls 2 [(0, .ref (q 99)), (1, .int x1)] := hl
  rw [sX7_call] at hs
  refine lv_iload_n C.1 C.2.1 dX7_call_0 rfl (lv_at hl 1 rfl) ?_
  refine lv_iconst (v := 0) C.1 C.2.1 dX7_call_1 (by decide) ?_
  refine lv_bipush (v := 100) C.1 C.2.1 dX7_call_2 (by decide) ?_
  obtain ⟨r_4, hc, hs⟩ := bd_e hs
  refine S_call (h := 3) C (kX7_isWithin l _ _ _ _ hc) ml_X7_80 st_X7_isWithin ini_X7 co_X7_isWithin hyX7_isWithin rfl ⟨by decide, by decide⟩ hl.1 rfl (Nat.le_of_ble_eq_true rfl) dX7_call_4 ⟨Nat.le_refl 0, Nat.le_refl 0, Nat.le_refl _, Nat.le_refl _⟩ ?_
  refine lv_if_eq (tgt := 21) C.1 C.2.1 dX7_call_7 (by decide) (fun cn => ?_) (fun cn => ?_)
  · have hs := if_t cn hs
    refine lv_iconst (v := -1) C.1 C.2.1 dX7_call_21 (by decide) ?_
    obtain rfl := Option.some.inj hs
    exact C_iret C hI dX7_call_22
  · have hs := if_f cn hs
    refine lv_aload_n C.1 C.2.1 dX7_call_10 rfl (lv_at hl 0 rfl) ?_
    refine cg_X7_0 C hI dX7_call_11 ?_
    refine lv_iload_n C.1 C.2.1 dX7_call_14 rfl (lv_at hl 1 rfl) ?_
    obtain ⟨r_15, hc, hs⟩ := bd_e hs
    refine C_call C hI (kX4_costAt l D cy P0 q z tl xx _ _ _ _ _ _ hc) (rv_X4 hI) ml_X7_295 im_X4_costAt se_X4_costAt ini_X4 co_X4_costAt hyX4_costAt rfl ⟨by decide, by decide⟩ hl.1 rfl (Nat.le_of_ble_eq_true rfl) dX7_call_15 (fun H locs hI => ?_)
    refine lv_goto (tgt := 22) C.1 C.2.1 dX7_call_18 (by decide) ?_
    obtain rfl := Option.some.inj hs
    exact C_iret C hI dX7_call_22

def lX7_when_28 : Nat → Int32 → Int32 → Int32 → (Nat → Int32) → (Nat → Int64) → (Nat → Nat → Int32) → (Nat → Nat → Int64) → Option (Int32)
  | 0, _, _, _, _, _, _, _ => none
  | n + 1, x1, x2, x3, I, J, A, B =>
    if (100 : Int32) < x3 then
    (some x1)
    else
    (sX4_costAt x3 I J A B).bind fun r_39 =>
    if x2 < r_39 then
    (gv (x3 + 1) fun x3_55 =>
    lX7_when_28 n x1 x2 x3_55 I J A B)
    else
    gv (x3 + 1) fun x3_55 =>
    lX7_when_28 n x3 r_39 x3_55 I J A B
def sX7_when (I : Nat → Int32) (J : Nat → Int64) (A : Nat → Nat → Int32) (B : Nat → Nat → Int64) : Option ((Int32)) :=
if (I 41) = 0 then
(some (-1 : Int32))
else
(sX4_costAt (0 : Int32) I J A B).bind fun r_22 =>
(lX7_when_28 FU (0 : Int32) r_22 (1 : Int32) I J A B).bind fun x1_28 =>
some x1_28
set_option maxRecDepth 100000 in
set_option maxHeartbeats 8000000 in
theorem kX7_when (l : Launch) (D : va_G) (cy : Nat → ClassId) (P0 : Nat → Prop) (q z : Nat → Nat) (tl : va_W) (xx : (Nat → Option Nat) × (Nat → Option Nat) × Nat) (I : Nat → Int32) (J : Nat → Int64) (A : Nat → Nat → Int32) (B : Nat → Nat → Int64) (r : Int32) (hs : sX7_when I J A B = some r) : McC l yX7_when cX7_when 5 (some .int) 3 [.ref (q 99)] D cy P0 q z tl xx I J A B (some (.int r)) xx I J A B := by
  refine C_start rfl (Nat.le_of_ble_eq_true rfl) ?_
  intro p e s m args below meth c H locs C hI ls hl
  have hl : lv_has ls 5 [(0, .ref (q 99))] := hl
  rw [sX7_when] at hs
  refine lv_aload_n C.1 C.2.1 dX7_when_0 rfl (lv_at hl 0 rfl) ?_
  refine cg_X7_0 C hI dX7_when_1 ?_
  refine cg_X7_20 C hI dX7_when_4 ?_
  refine cg_X7_41 C hI dX7_when_7 ?_
  refine lv_if_ne (tgt := 15) C.1 C.2.1 dX7_when_10 (by decide) (fun cn => ?_) (fun cn => ?_)
  · have hs := if_f cn hs
    refine lv_iconst (v := 0) C.1 C.2.1 dX7_when_15 (by decide) ?_
    refine lv_istore_n (lv' := [(1, .int (0 : Int32)), (0, .ref (q 99))]) C.1 C.2.1 dX7_when_16 rfl hl (by decide) rfl (fun ls hl => ?_)
    refine lv_aload_n C.1 C.2.1 dX7_when_17 rfl (lv_at hl 1 rfl) ?_
    refine cg_X7_0 C hI dX7_when_18 ?_
    refine lv_iconst (v := 0) C.1 C.2.1 dX7_when_21 (by decide) ?_
    obtain ⟨r_22, hc, hs⟩ := bd_e hs
    refine C_call C hI (kX4_costAt l D cy P0 q z tl xx _ _ _ _ _ _ hc) (rv_X4 hI) ml_X7_295 im_X4_costAt se_X4_costAt ini_X4 co_X4_costAt hyX4_costAt rfl ⟨by decide, by decide⟩ hl.1 rfl (Nat.le_of_ble_eq_true rfl) dX7_when_22 (fun H locs hI => ?_)
    refine lv_istore_n (lv' := [(2, .int r_22), (1, .int (0 : Int32)), (0, .ref (q 99))]) C.1 C.2.1 dX7_when_25 rfl hl (by decide) rfl (fun ls hl => ?_)
    refine lv_iconst (v := 1) C.1 C.2.1 dX7_when_26 (by decide) ?_
    refine lv_istore_n (lv' := [(3, .int (1 : Int32)), (2, .int r_22), (1, .int (0 : Int32)), (0, .ref (q 99))]) C.1 C.2.1 dX7_when_27 rfl hl (by decide) rfl (fun ls hl => ?_)
    have KL_28 : ∀ (n : Nat) (x1 : Int32) (x2 : Int32) (x3 : Int32) (I : Nat → Int32) (J : Nat → Int64) (A : Nat → Nat → Int32) (B : Nat → Nat → Int64) (o : Int32) (Q : State → Prop) (H : Heap) (locs : List Loc) (ls : Array Slot), lX7_when_28 n x1 x2 x3 I J A B = some o → CI D cy s P0 s.heap H locs q z tl xx I J A B → lv_has ls 5 [(0, .ref (q 99)), (1, .int x1), (2, .int x2), (3, .int x3)] → (∀ (o1_0 : Int32) (H : Heap) (locs : List Loc) (ls : Array Slot), o = o1_0 → CI D cy s P0 s.heap H locs q z tl xx I J A B → lv_has ls 5 [(1, .int o1_0)] → W p l e (rmL 3) s m args below meth c H locs 0 0 Q (F0 m 61 ls [])) → W p l e (rmL 3) s m args below meth c H locs 0 0 Q (F0 m 28 ls []) := by
      intro n; induction n with
      | zero => intro x1 x2 x3 I J A B o Q H locs ls hs; rw [lX7_when_28] at hs; cases hs
      | succ n ih =>
        intro x1 x2 x3 I J A B o Q H locs ls hs hI hl kk0
        rw [lX7_when_28] at hs
        refine lv_iload_n C.1 C.2.1 dX7_when_28 rfl (lv_at hl 3 rfl) ?_
        refine lv_bipush (v := 100) C.1 C.2.1 dX7_when_29 (by decide) ?_
        refine lv_icmp_gt (tgt := 61) C.1 C.2.1 dX7_when_31 (by decide) (fun cn => ?_) (fun cn => ?_)
        · have hs := if_t cn hs
          have eo := (Option.some.inj hs).symm
          exact kk0 _ _ _ _ eo hI (lv_sub hl [1] rfl)
        · have hs := if_f cn hs
          refine lv_aload_n C.1 C.2.1 dX7_when_34 rfl (lv_at hl 0 rfl) ?_
          refine cg_X7_0 C hI dX7_when_35 ?_
          refine lv_iload_n C.1 C.2.1 dX7_when_38 rfl (lv_at hl 3 rfl) ?_
          obtain ⟨r_39, hc, hs⟩ := bd_e hs
          refine C_call C hI (kX4_costAt l D cy P0 q z tl xx _ _ _ _ _ _ hc) (rv_X4 hI) ml_X7_295 im_X4_costAt se_X4_costAt ini_X4 co_X4_costAt hyX4_costAt rfl ⟨by decide, by decide⟩ hl.1 rfl (Nat.le_of_ble_eq_true rfl) dX7_when_39 (fun H locs hI => ?_)
          refine lv_istore (lv' := [(4, .int r_39), (0, .ref (q 99)), (1, .int x1), (2, .int x2), (3, .int x3)]) C.1 C.2.1 dX7_when_42 hl (by decide) rfl (fun ls hl => ?_)
          refine lv_iload C.1 C.2.1 dX7_when_44 (lv_at hl 0 rfl) ?_
          refine lv_iload_n C.1 C.2.1 dX7_when_46 rfl (lv_at hl 3 rfl) ?_
          refine lv_icmp_gt (tgt := 55) C.1 C.2.1 dX7_when_47 (by decide) (fun cn => ?_) (fun cn => ?_)
          · have hs := if_t cn hs
            obtain ⟨x3_55, ex3_55⟩ : ∃ y : Int32, y = (x3 + 1) := ⟨_, rfl⟩
            have hs := gv_at ex3_55 hs
            refine lv_iinc (v := x3_55) (lv' := [(3, .int x3_55), (4, .int r_39), (0, .ref (q 99)), (1, .int x1), (2, .int x2)]) C.1 C.2.1 dX7_when_55 hl (k := 4) rfl (by rw [ex3_55]; rfl) (by decide) rfl (fun ls hl => ?_)
            refine lv_goto (tgt := 28) C.1 C.2.1 dX7_when_58 (by decide) ?_
            exact ih _ _ _ _ _ _ _ _ _ _ _ _ hs hI (lv_sub hl [2, 3, 4, 0] rfl) kk0
          · have hs := if_f cn hs
            refine lv_iload_n C.1 C.2.1 dX7_when_50 rfl (lv_at hl 4 rfl) ?_
            refine lv_istore_n (lv' := [(1, .int x3), (4, .int r_39), (0, .ref (q 99)), (2, .int x2), (3, .int x3)]) C.1 C.2.1 dX7_when_51 rfl hl (by decide) rfl (fun ls hl => ?_)
            refine lv_iload C.1 C.2.1 dX7_when_52 (lv_at hl 1 rfl) ?_
            refine lv_istore_n (lv' := [(2, .int r_39), (1, .int x3), (4, .int r_39), (0, .ref (q 99)), (3, .int x3)]) C.1 C.2.1 dX7_when_54 rfl hl (by decide) rfl (fun ls hl => ?_)
            obtain ⟨x3_55, ex3_55⟩ : ∃ y : Int32, y = (x3 + 1) := ⟨_, rfl⟩
            have hs := gv_at ex3_55 hs
            refine lv_iinc (v := x3_55) (lv' := [(3, .int x3_55), (2, .int r_39), (1, .int x3), (4, .int r_39), (0, .ref (q 99))]) C.1 C.2.1 dX7_when_55 hl (k := 4) rfl (by rw [ex3_55]; rfl) (by decide) rfl (fun ls hl => ?_)
            refine lv_goto (tgt := 28) C.1 C.2.1 dX7_when_58 (by decide) ?_
            exact ih _ _ _ _ _ _ _ _ _ _ _ _ hs hI (lv_sub hl [4, 2, 1, 0] rfl) kk0
    obtain ⟨x1_28, hL, hs⟩ := bd_e hs
    refine KL_28 FU _ _ _ _ _ _ _ _ _ _ _ _ hL hI (lv_sub hl [3, 2, 1, 0] rfl) (fun z0 H locs ls eo hI hl => ?_)
    subst eo
    refine lv_iload_n C.1 C.2.1 dX7_when_61 rfl (lv_at hl 0 rfl) ?_
    obtain rfl := Option.some.inj hs
    exact C_iret C hI dX7_when_62
  · have hs := if_t cn hs
    refine lv_iconst (v := -1) C.1 C.2.1 dX7_when_13 (by decide) ?_
    obtain rfl := Option.some.inj hs
    exact C_iret C hI dX7_when_14

def lX1_fallsOfAll_2 : Nat → Int32 → Int32 → (Nat → Int32) → (Nat → Int64) → (Nat → Nat → Int32) → (Nat → Nat → Int64) → Option ((Nat → Int32) × (Nat → Int64) × (Nat → Nat → Int32) × (Nat → Nat → Int64))
  | 0, _, _, _, _, _, _ => none
  | n + 1, x1, x2, I, J, A, B =>
    if (6 : Int32) ≤ x2 then
    (some (I, J, A, B))
    else
    (sX1_fallsOf x2 x1 I J A B).bind fun (r_16, I, J, A, B) =>
    ck (inB x2 6) <|
    gv (va_up A 63 (upd (A 63) (ix x2) r_16)) fun A =>
    gv (x2 + 1) fun x2_20 =>
    lX1_fallsOfAll_2 n x1 x2_20 I J A B
def sX1_fallsOfAll (x1 : Int32) (I : Nat → Int32) (J : Nat → Int64) (A : Nat → Nat → Int32) (B : Nat → Nat → Int64) : Option ((Int32) × (Nat → Int32) × (Nat → Int64) × (Nat → Nat → Int32) × (Nat → Nat → Int64)) :=
(lX1_fallsOfAll_2 FU x1 (0 : Int32) I J A B).bind fun (I, J, A, B) =>
(sX1_allFalls  I J A B).bind fun r_27 =>
some (r_27, I, J, A, B)
set_option maxRecDepth 100000 in
set_option maxHeartbeats 8000000 in
theorem kX1_fallsOfAll (l : Launch) (D : va_G) (cy : Nat → ClassId) (P0 : Nat → Prop) (q z : Nat → Nat) (tl : va_W) (xx : (Nat → Option Nat) × (Nat → Option Nat) × Nat) (x1 : Int32) (I : Nat → Int32) (J : Nat → Int64) (A : Nat → Nat → Int32) (B : Nat → Nat → Int64) (r : Int32) (I2 : Nat → Int32) (J2 : Nat → Int64) (A2 : Nat → Nat → Int32) (B2 : Nat → Nat → Int64) (hs : sX1_fallsOfAll x1 I J A B = some (r, I2, J2, A2, B2)) : McC l yX1_fallsOfAll cX1_fallsOfAll 3 (some .int) 4 [.ref (q 2), .int x1] D cy P0 q z tl xx I J A B (some (.int r)) xx I2 J2 A2 B2 := by
  refine C_start rfl (Nat.le_of_ble_eq_true rfl) ?_
  intro p e s m args below meth c H locs C hI ls hl
  have hl : lv_has ls 3 [(0, .ref (q 2)), (1, .int x1)] := hl
  rw [sX1_fallsOfAll] at hs
  refine lv_iconst (v := 0) C.1 C.2.1 dX1_fallsOfAll_0 (by decide) ?_
  refine lv_istore_n (lv' := [(2, .int (0 : Int32)), (0, .ref (q 2)), (1, .int x1)]) C.1 C.2.1 dX1_fallsOfAll_1 rfl hl (by decide) rfl (fun ls hl => ?_)
  have KL_2 : ∀ (n : Nat) (x1 : Int32) (x2 : Int32) (I : Nat → Int32) (J : Nat → Int64) (A : Nat → Nat → Int32) (B : Nat → Nat → Int64) (o : (Nat → Int32) × (Nat → Int64) × (Nat → Nat → Int32) × (Nat → Nat → Int64)) (Q : State → Prop) (H : Heap) (locs : List Loc) (ls : Array Slot), lX1_fallsOfAll_2 n x1 x2 I J A B = some o → CI D cy s P0 s.heap H locs q z tl xx I J A B → lv_has ls 3 [(0, .ref (q 2)), (1, .int x1), (2, .int x2)] → (∀ (I_0 : Nat → Int32) (J_0 : Nat → Int64) (A_0 : Nat → Nat → Int32) (B_0 : Nat → Nat → Int64) (H : Heap) (locs : List Loc) (ls : Array Slot), o = (I_0, J_0, A_0, B_0) → CI D cy s P0 s.heap H locs q z tl xx I_0 J_0 A_0 B_0 → lv_has ls 3 [(0, .ref (q 2))] → W p l e (rmL 4) s m args below meth c H locs 0 0 Q (F0 m 26 ls [])) → W p l e (rmL 4) s m args below meth c H locs 0 0 Q (F0 m 2 ls []) := by
    intro n; induction n with
    | zero => intro x1 x2 I J A B o Q H locs ls hs; rw [lX1_fallsOfAll_2] at hs; cases hs
    | succ n ih =>
      intro x1 x2 I J A B o Q H locs ls hs hI hl kk0
      rw [lX1_fallsOfAll_2] at hs
      refine lv_iload_n C.1 C.2.1 dX1_fallsOfAll_2 rfl (lv_at hl 2 rfl) ?_
      refine lv_bipush (v := 6) C.1 C.2.1 dX1_fallsOfAll_3 (by decide) ?_
      refine lv_icmp_ge (tgt := 26) C.1 C.2.1 dX1_fallsOfAll_5 (by decide) (fun cn => ?_) (fun cn => ?_)
      · have hs := if_t cn hs
        have eo := (Option.some.inj hs).symm
        exact kk0 _ _ _ _ _ _ _ eo hI (lv_sub hl [0] rfl)
      · have hs := if_f cn hs
        refine lv_aload_n C.1 C.2.1 dX1_fallsOfAll_8 rfl (lv_at hl 0 rfl) ?_
        refine cg_X1_63 C hI dX1_fallsOfAll_9 ?_
        refine lv_iload_n C.1 C.2.1 dX1_fallsOfAll_12 rfl (lv_at hl 2 rfl) ?_
        refine lv_aload_n C.1 C.2.1 dX1_fallsOfAll_13 rfl (lv_at hl 0 rfl) ?_
        refine lv_iload_n C.1 C.2.1 dX1_fallsOfAll_14 rfl (lv_at hl 2 rfl) ?_
        refine lv_iload_n C.1 C.2.1 dX1_fallsOfAll_15 rfl (lv_at hl 1 rfl) ?_
        obtain ⟨⟨r_16, I, J, A, B⟩, hc, hs⟩ := bd_e hs
        refine C_call C hI (kX1_fallsOf l D cy P0 q z tl xx _ _ _ _ _ _ _ _ _ _ _ hc) (rv_X1 hI) ml_X1_149 im_X1_fallsOf se_X1_fallsOf ini_X1 co_X1_fallsOf hyX1_fallsOf rfl ⟨by decide, by decide⟩ hl.1 rfl (Nat.le_of_ble_eq_true rfl) dX1_fallsOfAll_16 (fun H locs hI => ?_)
        obtain ⟨hk, hs⟩ := ck_e hs
        refine cs_63 C hI hk dX1_fallsOfAll_19 (fun H locs hI => ?_)
        have hs := gv_be hs
        obtain ⟨x2_20, ex2_20⟩ : ∃ y : Int32, y = (x2 + 1) := ⟨_, rfl⟩
        have hs := gv_at ex2_20 hs
        refine lv_iinc (v := x2_20) (lv' := [(2, .int x2_20), (0, .ref (q 2)), (1, .int x1)]) C.1 C.2.1 dX1_fallsOfAll_20 hl (k := 2) rfl (by rw [ex2_20]; rfl) (by decide) rfl (fun ls hl => ?_)
        refine lv_goto (tgt := 2) C.1 C.2.1 dX1_fallsOfAll_23 (by decide) ?_
        exact ih _ _ _ _ _ _ _ _ _ _ _ hs hI (lv_sub hl [1, 2, 0] rfl) kk0
  obtain ⟨⟨I_L, J_L, A_L, B_L⟩, hL, hs⟩ := bd_e hs
  refine KL_2 FU _ _ _ _ _ _ _ _ _ _ _ hL hI (lv_sub hl [1, 2, 0] rfl) (fun z0 z1 z2 z3 H locs ls eo hI hl => ?_)
  obtain ⟨rfl, rfl, rfl, rfl⟩ := pr4 eo
  refine lv_aload_n C.1 C.2.1 dX1_fallsOfAll_26 rfl (lv_at hl 0 rfl) ?_
  obtain ⟨r_27, hc, hs⟩ := bd_e hs
  refine C_call C hI (kX1_allFalls l D cy P0 q z tl xx _ _ _ _ _ hc) (rv_X1 hI) ml_X1_152 im_X1_allFalls se_X1_allFalls ini_X1 co_X1_allFalls hyX1_allFalls rfl ⟨by decide, by decide⟩ hl.1 rfl (Nat.le_of_ble_eq_true rfl) dX1_fallsOfAll_27 (fun H locs hI => ?_)
  obtain ⟨rfl, rfl, rfl, rfl, rfl⟩ := so5 hs
  exact C_iret C hI dX1_fallsOfAll_30

def sX1_fallsAnew (x1 : Int32) (x2 : Int32) (I : Nat → Int32) (J : Nat → Int64) (A : Nat → Nat → Int32) (B : Nat → Nat → Int64) : Option ((Int32) × (Nat → Int32) × (Nat → Int64) × (Nat → Nat → Int32) × (Nat → Nat → Int64)) :=
(sX1_fallsOf x1 x2 I J A B).bind fun (r_8, I, J, A, B) =>
ck (inB x1 6) <|
gv (va_up A 63 (upd (A 63) (ix x1) r_8)) fun A =>
(sX1_allFalls  I J A B).bind fun r_13 =>
some (r_13, I, J, A, B)
set_option maxRecDepth 100000 in
set_option maxHeartbeats 8000000 in
theorem kX1_fallsAnew (l : Launch) (D : va_G) (cy : Nat → ClassId) (P0 : Nat → Prop) (q z : Nat → Nat) (tl : va_W) (xx : (Nat → Option Nat) × (Nat → Option Nat) × Nat) (x1 : Int32) (x2 : Int32) (I : Nat → Int32) (J : Nat → Int64) (A : Nat → Nat → Int32) (B : Nat → Nat → Int64) (r : Int32) (I2 : Nat → Int32) (J2 : Nat → Int64) (A2 : Nat → Nat → Int32) (B2 : Nat → Nat → Int64) (hs : sX1_fallsAnew x1 x2 I J A B = some (r, I2, J2, A2, B2)) : McC l yX1_fallsAnew cX1_fallsAnew 3 (some .int) 4 [.ref (q 2), .int x1, .int x2] D cy P0 q z tl xx I J A B (some (.int r)) xx I2 J2 A2 B2 := by
  refine C_start rfl (Nat.le_of_ble_eq_true rfl) ?_
  intro p e s m args below meth c H locs C hI ls hl
  have hl : lv_has ls 3 [(0, .ref (q 2)), (1, .int x1), (2, .int x2)] := hl
  rw [sX1_fallsAnew] at hs
  refine lv_aload_n C.1 C.2.1 dX1_fallsAnew_0 rfl (lv_at hl 0 rfl) ?_
  refine cg_X1_63 C hI dX1_fallsAnew_1 ?_
  refine lv_iload_n C.1 C.2.1 dX1_fallsAnew_4 rfl (lv_at hl 1 rfl) ?_
  refine lv_aload_n C.1 C.2.1 dX1_fallsAnew_5 rfl (lv_at hl 0 rfl) ?_
  refine lv_iload_n C.1 C.2.1 dX1_fallsAnew_6 rfl (lv_at hl 1 rfl) ?_
  refine lv_iload_n C.1 C.2.1 dX1_fallsAnew_7 rfl (lv_at hl 2 rfl) ?_
  obtain ⟨⟨r_8, I, J, A, B⟩, hc, hs⟩ := bd_e hs
  refine C_call C hI (kX1_fallsOf l D cy P0 q z tl xx _ _ _ _ _ _ _ _ _ _ _ hc) (rv_X1 hI) ml_X1_149 im_X1_fallsOf se_X1_fallsOf ini_X1 co_X1_fallsOf hyX1_fallsOf rfl ⟨by decide, by decide⟩ hl.1 rfl (Nat.le_of_ble_eq_true rfl) dX1_fallsAnew_8 (fun H locs hI => ?_)
  obtain ⟨hk, hs⟩ := ck_e hs
  refine cs_63 C hI hk dX1_fallsAnew_11 (fun H locs hI => ?_)
  have hs := gv_be hs
  refine lv_aload_n C.1 C.2.1 dX1_fallsAnew_12 rfl (lv_at hl 0 rfl) ?_
  obtain ⟨r_13, hc, hs⟩ := bd_e hs
  refine C_call C hI (kX1_allFalls l D cy P0 q z tl xx _ _ _ _ _ hc) (rv_X1 hI) ml_X1_152 im_X1_allFalls se_X1_allFalls ini_X1 co_X1_allFalls hyX1_allFalls rfl ⟨by decide, by decide⟩ hl.1 rfl (Nat.le_of_ble_eq_true rfl) dX1_fallsAnew_13 (fun H locs hI => ?_)
  obtain ⟨rfl, rfl, rfl, rfl, rfl⟩ := so5 hs
  exact C_iret C hI dX1_fallsAnew_16

def lX2_addFallsOf_30 : Nat → Int32 → Int32 → Int32 → Int32 → (Nat → Int32) → (Nat → Int64) → (Nat → Nat → Int32) → (Nat → Nat → Int64) → Option ((Nat → Int32) × (Nat → Int64) × (Nat → Nat → Int32) × (Nat → Nat → Int64))
  | 0, _, _, _, _, _, _, _, _ => none
  | n + 1, x1, x2, x3, x4, I, J, A, B =>
    (sX2_sets  I J A B).bind fun r_33 =>
    if r_33 ≤ x4 then
    (some (I, J, A, B))
    else
    if x2 = 0 then
    (some (I, J, A, B))
    else
    gv (x4 &&& x3) fun x5_47 =>
    gv (fun (I : Nat → Int32) (J : Nat → Int64) (A : Nat → Nat → Int32) (B : Nat → Nat → Int64) =>
    ck (inB x4 512) <|
    ck (inB x5_47 512) <|
    ck (inB x4 512) <|
    gv (va_up A 77 (upd (A 77) (ix x4) ((A 77 (ix x4)) ||| (A 78 (ix x5_47))))) fun A =>
    gv (x4 + 1) fun x4_95 =>
    lX2_addFallsOf_30 n x1 x2 x3 x4_95 I J A B) fun k_78 =>
    if x5_47 = x4 then
    ((sX2_mend x4 I J A B).bind fun A =>
    (sX1_fallsOf x1 x2 I J A B).bind fun (r_74, I, J, A, B) =>
    ck (inB x4 512) <|
    gv (va_up A 78 (upd (A 78) (ix x4) r_74)) fun A =>
    k_78 I J A B)
    else
    k_78 I J A B
def sX2_addFallsOf (x1 : Int32) (I : Nat → Int32) (J : Nat → Int64) (A : Nat → Nat → Int32) (B : Nat → Nat → Int64) : Option ((Nat → Int32) × (Nat → Int64) × (Nat → Nat → Int32) × (Nat → Nat → Int64)) :=
(sX2_mend (0 : Int32) I J A B).bind fun A =>
(sX4_currents  I J A B).bind fun r_14 =>
(sX1_stirsOf x1 r_14 I J A B).bind fun (r_17, I, J, A, B) =>
(sX2_wishesIn x1 I J A B).bind fun r_23 =>
(lX2_addFallsOf_30 FU x1 r_17 r_23 (0 : Int32) I J A B).bind fun (I, J, A, B) =>
some (I, J, A, B)
set_option maxRecDepth 100000 in
set_option maxHeartbeats 8000000 in
theorem kX2_addFallsOf (l : Launch) (D : va_G) (cy : Nat → ClassId) (P0 : Nat → Prop) (q z : Nat → Nat) (tl : va_W) (xx : (Nat → Option Nat) × (Nat → Option Nat) × Nat) (x1 : Int32) (I : Nat → Int32) (J : Nat → Int64) (A : Nat → Nat → Int32) (B : Nat → Nat → Int64) (I2 : Nat → Int32) (J2 : Nat → Int64) (A2 : Nat → Nat → Int32) (B2 : Nat → Nat → Int64) (hs : sX2_addFallsOf x1 I J A B = some (I2, J2, A2, B2)) : McC l yX2_addFallsOf cX2_addFallsOf 6 none 4 [.ref (q 3), .int x1] D cy P0 q z tl xx I J A B none xx I2 J2 A2 B2 := by
  refine C_start rfl (Nat.le_of_ble_eq_true rfl) ?_
  intro p e s m args below meth c H locs C hI ls hl
  have hl : lv_has ls 6 [(0, .ref (q 3)), (1, .int x1)] := hl
  rw [sX2_addFallsOf] at hs
  refine lv_aload_n C.1 C.2.1 dX2_addFallsOf_0 rfl (lv_at hl 0 rfl) ?_
  refine lv_iconst (v := 0) C.1 C.2.1 dX2_addFallsOf_1 (by decide) ?_
  obtain ⟨A, hc, hs⟩ := bd_e hs
  refine C_call C hI (kX2_mend l D cy P0 q z tl xx _ _ _ _ _ _ hc) (rv_X2 hI) ml_X2_82 im_X2_mend se_X2_mend ini_X2 co_X2_mend hyX2_mend rfl ⟨by decide, by decide⟩ hl.1 rfl (Nat.le_of_ble_eq_true rfl) dX2_addFallsOf_2 (fun H locs hI => ?_)
  refine lv_aload_n C.1 C.2.1 dX2_addFallsOf_5 rfl (lv_at hl 0 rfl) ?_
  refine cg_X2_71 C hI dX2_addFallsOf_6 ?_
  refine lv_iload_n C.1 C.2.1 dX2_addFallsOf_9 rfl (lv_at hl 1 rfl) ?_
  refine lv_aload_n C.1 C.2.1 dX2_addFallsOf_10 rfl (lv_at hl 0 rfl) ?_
  refine cg_X2_70 C hI dX2_addFallsOf_11 ?_
  obtain ⟨r_14, hc, hs⟩ := bd_e hs
  refine C_call C hI (kX4_currents l D cy P0 q z tl xx _ _ _ _ _ hc) (rv_X4 hI) ml_X2_85 im_X4_currents se_X4_currents ini_X4 co_X4_currents hyX4_currents rfl ⟨by decide, by decide⟩ hl.1 rfl (Nat.le_of_ble_eq_true rfl) dX2_addFallsOf_14 (fun H locs hI => ?_)
  obtain ⟨⟨r_17, I, J, A, B⟩, hc, hs⟩ := bd_e hs
  refine C_call C hI (kX1_stirsOf l D cy P0 q z tl xx _ _ _ _ _ _ _ _ _ _ _ hc) (rv_X1 hI) ml_X2_88 im_X1_stirsOf se_X1_stirsOf ini_X1 co_X1_stirsOf hyX1_stirsOf rfl ⟨by decide, by decide⟩ hl.1 rfl (Nat.le_of_ble_eq_true rfl) dX2_addFallsOf_17 (fun H locs hI => ?_)
  refine lv_istore_n (lv' := [(2, .int r_17), (0, .ref (q 3)), (1, .int x1)]) C.1 C.2.1 dX2_addFallsOf_20 rfl hl (by decide) rfl (fun ls hl => ?_)
  refine lv_aload_n C.1 C.2.1 dX2_addFallsOf_21 rfl (lv_at hl 1 rfl) ?_
  refine lv_iload_n C.1 C.2.1 dX2_addFallsOf_22 rfl (lv_at hl 2 rfl) ?_
  obtain ⟨r_23, hc, hs⟩ := bd_e hs
  refine C_call C hI (kX2_wishesIn l D cy P0 q z tl xx _ _ _ _ _ _ hc) (rv_X2 hI) ml_X2_91 im_X2_wishesIn se_X2_wishesIn ini_X2 co_X2_wishesIn hyX2_wishesIn rfl ⟨by decide, by decide⟩ hl.1 rfl (Nat.le_of_ble_eq_true rfl) dX2_addFallsOf_23 (fun H locs hI => ?_)
  refine lv_istore_n (lv' := [(3, .int r_23), (2, .int r_17), (0, .ref (q 3)), (1, .int x1)]) C.1 C.2.1 dX2_addFallsOf_26 rfl hl (by decide) rfl (fun ls hl => ?_)
  refine lv_iconst (v := 0) C.1 C.2.1 dX2_addFallsOf_27 (by decide) ?_
  refine lv_istore (lv' := [(4, .int (0 : Int32)), (3, .int r_23), (2, .int r_17), (0, .ref (q 3)), (1, .int x1)]) C.1 C.2.1 dX2_addFallsOf_28 hl (by decide) rfl (fun ls hl => ?_)
  have KL_30 : ∀ (n : Nat) (x1 : Int32) (x2 : Int32) (x3 : Int32) (x4 : Int32) (I : Nat → Int32) (J : Nat → Int64) (A : Nat → Nat → Int32) (B : Nat → Nat → Int64) (o : (Nat → Int32) × (Nat → Int64) × (Nat → Nat → Int32) × (Nat → Nat → Int64)) (Q : State → Prop) (H : Heap) (locs : List Loc) (ls : Array Slot), lX2_addFallsOf_30 n x1 x2 x3 x4 I J A B = some o → CI D cy s P0 s.heap H locs q z tl xx I J A B → lv_has ls 6 [(0, .ref (q 3)), (1, .int x1), (2, .int x2), (3, .int x3), (4, .int x4)] → (∀ (I_0 : Nat → Int32) (J_0 : Nat → Int64) (A_0 : Nat → Nat → Int32) (B_0 : Nat → Nat → Int64) (H : Heap) (locs : List Loc) (ls : Array Slot), o = (I_0, J_0, A_0, B_0) → CI D cy s P0 s.heap H locs q z tl xx I_0 J_0 A_0 B_0 → lv_has ls 6 [] → W p l e (rmL 4) s m args below meth c H locs 0 0 Q (F0 m 101 ls [])) → W p l e (rmL 4) s m args below meth c H locs 0 0 Q (F0 m 30 ls []) := by
    intro n; induction n with
    | zero => intro x1 x2 x3 x4 I J A B o Q H locs ls hs; rw [lX2_addFallsOf_30] at hs; cases hs
    | succ n ih =>
      intro x1 x2 x3 x4 I J A B o Q H locs ls hs hI hl kk0
      rw [lX2_addFallsOf_30] at hs
      refine lv_iload C.1 C.2.1 dX2_addFallsOf_30 (lv_at hl 4 rfl) ?_
      refine lv_aload_n C.1 C.2.1 dX2_addFallsOf_32 rfl (lv_at hl 0 rfl) ?_
      obtain ⟨r_33, hc, hs⟩ := bd_e hs
      refine C_call C hI (kX2_sets l D cy P0 q z tl xx _ _ _ _ _ hc) (rv_X2 hI) ml_X2_72 im_X2_sets se_X2_sets ini_X2 co_X2_sets hyX2_sets rfl ⟨by decide, by decide⟩ hl.1 rfl (Nat.le_of_ble_eq_true rfl) dX2_addFallsOf_33 (fun H locs hI => ?_)
      refine lv_icmp_ge (tgt := 101) C.1 C.2.1 dX2_addFallsOf_36 (by decide) (fun cn => ?_) (fun cn => ?_)
      · have hs := if_t cn hs
        have eo := (Option.some.inj hs).symm
        exact kk0 _ _ _ _ _ _ _ eo hI (lv_sub hl [] rfl)
      · have hs := if_f cn hs
        refine lv_iload_n C.1 C.2.1 dX2_addFallsOf_39 rfl (lv_at hl 2 rfl) ?_
        refine lv_if_eq (tgt := 101) C.1 C.2.1 dX2_addFallsOf_40 (by decide) (fun cn => ?_) (fun cn => ?_)
        · have hs := if_t cn hs
          have eo := (Option.some.inj hs).symm
          exact kk0 _ _ _ _ _ _ _ eo hI (lv_sub hl [] rfl)
        · have hs := if_f cn hs
          refine lv_iload C.1 C.2.1 dX2_addFallsOf_43 (lv_at hl 4 rfl) ?_
          refine lv_iload_n C.1 C.2.1 dX2_addFallsOf_45 rfl (lv_at hl 3 rfl) ?_
          refine lv_iand C.1 C.2.1 dX2_addFallsOf_46 ?_
          refine lv_topi (fun x5_47 ex5_47 => ?_)
          have hs := gv_at ex5_47 hs
          refine lv_istore (lv' := [(5, .int x5_47), (0, .ref (q 3)), (1, .int x1), (2, .int x2), (3, .int x3), (4, .int x4)]) C.1 C.2.1 dX2_addFallsOf_47 hl (by decide) rfl (fun ls hl => ?_)
          refine lv_iload C.1 C.2.1 dX2_addFallsOf_49 (lv_at hl 0 rfl) ?_
          refine lv_iload C.1 C.2.1 dX2_addFallsOf_51 (lv_at hl 5 rfl) ?_
          obtain ⟨k_78, ek_78, hs⟩ := gv_ex hs
          have KJ_78 : ∀ (I : Nat → Int32) (J : Nat → Int64) (A : Nat → Nat → Int32) (B : Nat → Nat → Int64) (H : Heap) (locs : List Loc) (ls : Array Slot), k_78 I J A B = some o → CI D cy s P0 s.heap H locs q z tl xx I J A B → lv_has ls 6 [(0, .ref (q 3)), (1, .int x1), (2, .int x2), (3, .int x3), (4, .int x4), (5, .int x5_47)] → W p l e (rmL 4) s m args below meth c H locs 0 0 Q (F0 m 78 ls []) := by
            intro I J A B H locs ls hs hI hl
            rw [ek_78] at hs
            refine lv_aload_n C.1 C.2.1 dX2_addFallsOf_78 rfl (lv_at hl 0 rfl) ?_
            refine cg_X2_77 C hI dX2_addFallsOf_79 ?_
            refine lv_iload C.1 C.2.1 dX2_addFallsOf_82 (lv_at hl 4 rfl) ?_
            refine lv_dup2_11 C.1 C.2.1 dX2_addFallsOf_84 rfl rfl ?_
            obtain ⟨hk, hs⟩ := ck_e hs
            refine ca_77 C hI hk dX2_addFallsOf_85 ?_
            refine lv_aload_n C.1 C.2.1 dX2_addFallsOf_86 rfl (lv_at hl 0 rfl) ?_
            refine cg_X2_78 C hI dX2_addFallsOf_87 ?_
            refine lv_iload C.1 C.2.1 dX2_addFallsOf_90 (lv_at hl 5 rfl) ?_
            obtain ⟨hk, hs⟩ := ck_e hs
            refine ca_78 C hI hk dX2_addFallsOf_92 ?_
            refine lv_ior C.1 C.2.1 dX2_addFallsOf_93 ?_
            obtain ⟨hk, hs⟩ := ck_e hs
            refine cs_77 C hI hk dX2_addFallsOf_94 (fun H locs hI => ?_)
            have hs := gv_be hs
            obtain ⟨x4_95, ex4_95⟩ : ∃ y : Int32, y = (x4 + 1) := ⟨_, rfl⟩
            have hs := gv_at ex4_95 hs
            refine lv_iinc (v := x4_95) (lv' := [(4, .int x4_95), (0, .ref (q 3)), (1, .int x1), (2, .int x2), (3, .int x3), (5, .int x5_47)]) C.1 C.2.1 dX2_addFallsOf_95 hl (k := 4) rfl (by rw [ex4_95]; rfl) (by decide) rfl (fun ls hl => ?_)
            refine lv_goto (tgt := 30) C.1 C.2.1 dX2_addFallsOf_98 (by decide) ?_
            exact ih _ _ _ _ _ _ _ _ _ _ _ _ _ hs hI (lv_sub hl [1, 2, 3, 4, 0] rfl) kk0
          refine lv_icmp_ne (tgt := 78) C.1 C.2.1 dX2_addFallsOf_53 (by decide) (fun cn => ?_) (fun cn => ?_)
          · have hs := if_f cn hs
            exact KJ_78 _ _ _ _ _ _ _ hs hI (lv_sub hl [1, 2, 3, 4, 5, 0] rfl)
          · have hs := if_t cn hs
            refine lv_aload_n C.1 C.2.1 dX2_addFallsOf_56 rfl (lv_at hl 1 rfl) ?_
            refine lv_iload C.1 C.2.1 dX2_addFallsOf_57 (lv_at hl 5 rfl) ?_
            obtain ⟨A, hc, hs⟩ := bd_e hs
            refine C_call C hI (kX2_mend l D cy P0 q z tl xx _ _ _ _ _ _ hc) (rv_X2 hI) ml_X2_82 im_X2_mend se_X2_mend ini_X2 co_X2_mend hyX2_mend rfl ⟨by decide, by decide⟩ hl.1 rfl (Nat.le_of_ble_eq_true rfl) dX2_addFallsOf_59 (fun H locs hI => ?_)
            refine lv_aload_n C.1 C.2.1 dX2_addFallsOf_62 rfl (lv_at hl 1 rfl) ?_
            refine cg_X2_78 C hI dX2_addFallsOf_63 ?_
            refine lv_iload C.1 C.2.1 dX2_addFallsOf_66 (lv_at hl 5 rfl) ?_
            refine lv_aload_n C.1 C.2.1 dX2_addFallsOf_68 rfl (lv_at hl 1 rfl) ?_
            refine cg_X2_71 C hI dX2_addFallsOf_69 ?_
            refine lv_iload_n C.1 C.2.1 dX2_addFallsOf_72 rfl (lv_at hl 2 rfl) ?_
            refine lv_iload_n C.1 C.2.1 dX2_addFallsOf_73 rfl (lv_at hl 3 rfl) ?_
            obtain ⟨⟨r_74, I, J, A, B⟩, hc, hs⟩ := bd_e hs
            refine C_call C hI (kX1_fallsOf l D cy P0 q z tl xx _ _ _ _ _ _ _ _ _ _ _ hc) (rv_X1 hI) ml_X2_95 im_X1_fallsOf se_X1_fallsOf ini_X1 co_X1_fallsOf hyX1_fallsOf rfl ⟨by decide, by decide⟩ hl.1 rfl (Nat.le_of_ble_eq_true rfl) dX2_addFallsOf_74 (fun H locs hI => ?_)
            obtain ⟨hk, hs⟩ := ck_e hs
            refine cs_78 C hI hk dX2_addFallsOf_77 (fun H locs hI => ?_)
            have hs := gv_be hs
            exact KJ_78 _ _ _ _ _ _ _ hs hI (lv_sub hl [1, 2, 3, 4, 5, 0] rfl)
  obtain ⟨⟨I_L, J_L, A_L, B_L⟩, hL, hs⟩ := bd_e hs
  refine KL_30 FU _ _ _ _ _ _ _ _ _ _ _ _ _ hL hI (lv_sub hl [3, 4, 2, 1, 0] rfl) (fun z0 z1 z2 z3 H locs ls eo hI hl => ?_)
  obtain ⟨rfl, rfl, rfl, rfl⟩ := pr4 eo
  obtain ⟨rfl, rfl, rfl, rfl⟩ := so4 hs
  exact C_vret C hI dX2_addFallsOf_101

def lX3_isWord_18 : Nat → Int32 → Int32 → (Nat → Int32) → (Nat → Int64) → (Nat → Nat → Int32) → (Nat → Nat → Int64) → Option ((Unit) ⊕ (Unit))
  | 0, _, _, _, _, _, _ => none
  | n + 1, x1, x2, I, J, A, B =>
    if (6 : Int32) ≤ x2 then
    (some (.inr ()))
    else
    gv (fun (y0_j53 : Int32) =>
    ck (inB ((x1 * (6 : Int32)) + x2) 126) <|
    if y0_j53 = (wch (ix ((x1 * (6 : Int32)) + x2))) then
    (gv (x2 + 1) fun x2_71 =>
    lX3_isWord_18 n x1 x2_71 I J A B)
    else
    some (.inl ())) fun k_53 =>
    if (I 83) ≤ ((I 80) + x2) then
    (k_53 (32 : Int32))
    else
    ck (inB ((I 80) + x2) 400) <|
    k_53 (A 6 (ix ((I 80) + x2)))
def sX3_isWord (x1 : Int32) (I : Nat → Int32) (J : Nat → Int64) (A : Nat → Nat → Int32) (B : Nat → Nat → Int64) : Option ((Int32)) :=
if ((I 83) - (I 80)) ≤ (6 : Int32) then
((lX3_isWord_18 FU x1 (0 : Int32) I J A B).bind fun o_18 => match o_18 with
| .inl _ =>
some (0 : Int32)
| .inr _ =>
some (1 : Int32))
else
some (0 : Int32)
set_option maxRecDepth 100000 in
set_option maxHeartbeats 8000000 in
theorem kX3_isWord (l : Launch) (D : va_G) (cy : Nat → ClassId) (P0 : Nat → Prop) (q z : Nat → Nat) (tl : va_W) (xx : (Nat → Option Nat) × (Nat → Option Nat) × Nat) (x1 : Int32) (I : Nat → Int32) (J : Nat → Int64) (A : Nat → Nat → Int32) (B : Nat → Nat → Int64) (r : Int32) (hs : sX3_isWord x1 I J A B = some r) : McC l yX3_isWord cX3_isWord 4 (some .boolean) 4 [.ref (q 4), .int x1] D cy P0 q z tl (xx.1, xx.2.1, q 6) I J A B (some (.int r)) (xx.1, xx.2.1, q 6) I J A B := by
  refine C_start rfl (Nat.le_of_ble_eq_true rfl) ?_
  intro p e s m args below meth c H locs C hI ls hl
  have hl : lv_has ls 4 [(0, .ref (q 4)), (1, .int x1)] := hl
  rw [sX3_isWord] at hs
  refine lv_aload_n C.1 C.2.1 dX3_isWord_0 rfl (lv_at hl 0 rfl) ?_
  refine cg_X3_83 C hI dX3_isWord_1 ?_
  refine lv_aload_n C.1 C.2.1 dX3_isWord_4 rfl (lv_at hl 0 rfl) ?_
  refine cg_X3_80 C hI dX3_isWord_5 ?_
  refine lv_isub C.1 C.2.1 dX3_isWord_8 ?_
  refine lv_bipush (v := 6) C.1 C.2.1 dX3_isWord_9 (by decide) ?_
  refine lv_icmp_le (tgt := 16) C.1 C.2.1 dX3_isWord_11 (by decide) (fun cn => ?_) (fun cn => ?_)
  · have hs := if_t cn hs
    refine lv_iconst (v := 0) C.1 C.2.1 dX3_isWord_16 (by decide) ?_
    refine lv_istore_n (lv' := [(2, .int (0 : Int32)), (0, .ref (q 4)), (1, .int x1)]) C.1 C.2.1 dX3_isWord_17 rfl hl (by decide) rfl (fun ls hl => ?_)
    have KL_18 : ∀ (n : Nat) (x1 : Int32) (x2 : Int32) (I : Nat → Int32) (J : Nat → Int64) (A : Nat → Nat → Int32) (B : Nat → Nat → Int64) (o : (Unit) ⊕ (Unit)) (Q : State → Prop) (H : Heap) (locs : List Loc) (ls : Array Slot), lX3_isWord_18 n x1 x2 I J A B = some o → CI D cy s P0 s.heap H locs q z tl (xx.1, xx.2.1, q 6) I J A B → lv_has ls 4 [(0, .ref (q 4)), (1, .int x1), (2, .int x2)] → (∀ (H : Heap) (locs : List Loc) (ls : Array Slot), o = (.inl ()) → CI D cy s P0 s.heap H locs q z tl (xx.1, xx.2.1, q 6) I J A B → lv_has ls 4 [] → W p l e (rmL 4) s m args below meth c H locs 0 0 Q (F0 m 69 ls [])) → (∀ (H : Heap) (locs : List Loc) (ls : Array Slot), o = (.inr ()) → CI D cy s P0 s.heap H locs q z tl (xx.1, xx.2.1, q 6) I J A B → lv_has ls 4 [] → W p l e (rmL 4) s m args below meth c H locs 0 0 Q (F0 m 77 ls [])) → W p l e (rmL 4) s m args below meth c H locs 0 0 Q (F0 m 18 ls []) := by
      intro n; induction n with
      | zero => intro x1 x2 I J A B o Q H locs ls hs; rw [lX3_isWord_18] at hs; cases hs
      | succ n ih =>
        intro x1 x2 I J A B o Q H locs ls hs hI hl kk0 kk1
        rw [lX3_isWord_18] at hs
        refine lv_iload_n C.1 C.2.1 dX3_isWord_18 rfl (lv_at hl 2 rfl) ?_
        refine lv_bipush (v := 6) C.1 C.2.1 dX3_isWord_19 (by decide) ?_
        refine lv_icmp_ge (tgt := 77) C.1 C.2.1 dX3_isWord_21 (by decide) (fun cn => ?_) (fun cn => ?_)
        · have hs := if_t cn hs
          have eo := (Option.some.inj hs).symm
          exact kk1  _ _ _ eo hI (lv_sub hl [] rfl)
        · have hs := if_f cn hs
          refine lv_aload_n C.1 C.2.1 dX3_isWord_24 rfl (lv_at hl 0 rfl) ?_
          refine cg_X3_80 C hI dX3_isWord_25 ?_
          refine lv_iload_n C.1 C.2.1 dX3_isWord_28 rfl (lv_at hl 2 rfl) ?_
          refine lv_iadd C.1 C.2.1 dX3_isWord_29 ?_
          refine lv_aload_n C.1 C.2.1 dX3_isWord_30 rfl (lv_at hl 0 rfl) ?_
          refine cg_X3_83 C hI dX3_isWord_31 ?_
          obtain ⟨k_53, ek_53, hs⟩ := gv_ex hs
          have KJ_53 : ∀ (y0_j53 : Int32) (H : Heap) (locs : List Loc) (ls : Array Slot), k_53 y0_j53 = some o → CI D cy s P0 s.heap H locs q z tl (xx.1, xx.2.1, q 6) I J A B → lv_has ls 4 [(0, .ref (q 4)), (1, .int x1), (2, .int x2)] → W p l e (rmL 4) s m args below meth c H locs 0 0 Q (F0 m 53 ls [.int y0_j53]) := by
            intro y0_j53 H locs ls hs hI hl
            rw [ek_53] at hs
            refine lv_istore_n (lv' := [(3, .int y0_j53), (0, .ref (q 4)), (1, .int x1), (2, .int x2)]) C.1 C.2.1 dX3_isWord_53 rfl hl (by decide) rfl (fun ls hl => ?_)
            refine lv_iload_n C.1 C.2.1 dX3_isWord_54 rfl (lv_at hl 0 rfl) ?_
            refine c_words C hI dX3_isWord_55 ?_
            refine lv_iload_n C.1 C.2.1 dX3_isWord_57 rfl (lv_at hl 2 rfl) ?_
            refine lv_bipush (v := 6) C.1 C.2.1 dX3_isWord_58 (by decide) ?_
            refine lv_imul C.1 C.2.1 dX3_isWord_60 ?_
            refine lv_iload_n C.1 C.2.1 dX3_isWord_61 rfl (lv_at hl 3 rfl) ?_
            refine lv_iadd C.1 C.2.1 dX3_isWord_62 ?_
            obtain ⟨hk, hs⟩ := ck_e hs
            refine c_charAt C hI hk hl.1 (by omega) (Nat.le_of_ble_eq_true rfl) dX3_isWord_63 ?_
            refine lv_icmp_eq (tgt := 71) C.1 C.2.1 dX3_isWord_66 (by decide) (fun cn => ?_) (fun cn => ?_)
            · have hs := if_t cn hs
              obtain ⟨x2_71, ex2_71⟩ : ∃ y : Int32, y = (x2 + 1) := ⟨_, rfl⟩
              have hs := gv_at ex2_71 hs
              refine lv_iinc (v := x2_71) (lv' := [(2, .int x2_71), (3, .int y0_j53), (0, .ref (q 4)), (1, .int x1)]) C.1 C.2.1 dX3_isWord_71 hl (k := 3) rfl (by rw [ex2_71]; rfl) (by decide) rfl (fun ls hl => ?_)
              refine lv_goto (tgt := 18) C.1 C.2.1 dX3_isWord_74 (by decide) ?_
              exact ih _ _ _ _ _ _ _ _ _ _ _ hs hI (lv_sub hl [2, 3, 0] rfl) kk0 kk1
            · have hs := if_f cn hs
              have eo := (Option.some.inj hs).symm
              exact kk0  _ _ _ eo hI (lv_sub hl [] rfl)
          refine lv_icmp_ge (tgt := 51) C.1 C.2.1 dX3_isWord_34 (by decide) (fun cn => ?_) (fun cn => ?_)
          · have hs := if_t cn hs
            refine lv_bipush (v := 32) C.1 C.2.1 dX3_isWord_51 (by decide) ?_
            exact KJ_53 _ _ _ _ hs hI (lv_sub hl [0, 1, 2] rfl)
          · have hs := if_f cn hs
            refine lv_aload_n C.1 C.2.1 dX3_isWord_37 rfl (lv_at hl 0 rfl) ?_
            refine cg_X3_81 C hI dX3_isWord_38 ?_
            refine lv_aload_n C.1 C.2.1 dX3_isWord_41 rfl (lv_at hl 0 rfl) ?_
            refine cg_X3_80 C hI dX3_isWord_42 ?_
            refine lv_iload_n C.1 C.2.1 dX3_isWord_45 rfl (lv_at hl 2 rfl) ?_
            refine lv_iadd C.1 C.2.1 dX3_isWord_46 ?_
            obtain ⟨hk, hs⟩ := ck_e hs
            refine ca_6 C hI hk dX3_isWord_47 ?_
            refine lv_goto (tgt := 53) C.1 C.2.1 dX3_isWord_48 (by decide) ?_
            exact KJ_53 _ _ _ _ hs hI (lv_sub hl [0, 1, 2] rfl)
    obtain ⟨o_18, hL, hs⟩ := bd_e hs
    refine KL_18 FU _ _ _ _ _ _ _ _ _ _ _ hL hI (lv_sub hl [1, 2, 0] rfl) (fun H locs ls eo hI hl => ?_) (fun H locs ls eo hI hl => ?_)
    · rw [eo] at hs
      refine lv_iconst (v := 0) C.1 C.2.1 dX3_isWord_69 (by decide) ?_
      obtain rfl := Option.some.inj hs
      exact C_zret C hI (by decide) dX3_isWord_70
    · rw [eo] at hs
      refine lv_iconst (v := 1) C.1 C.2.1 dX3_isWord_77 (by decide) ?_
      obtain rfl := Option.some.inj hs
      exact C_zret C hI (by decide) dX3_isWord_78
  · have hs := if_f cn hs
    refine lv_iconst (v := 0) C.1 C.2.1 dX3_isWord_14 (by decide) ?_
    obtain rfl := Option.some.inj hs
    exact C_zret C hI (by decide) dX3_isWord_15

def sX7_goes (x1 : Int32) (x2 : Int32) (x3 : Int32) (I : Nat → Int32) (J : Nat → Int64) (A : Nat → Nat → Int32) (B : Nat → Nat → Int64) : Option ((Int32) × (Nat → Int32) × (Nat → Int64) × (Nat → Nat → Int32) × (Nat → Nat → Int64)) :=
(sX7_isBlowing x1 x2 I J A B).bind fun r_3 =>
if r_3 = 0 then
(some ((-1 : Int32), I, J, A, B))
else
(sX1_ready  I J A B).bind fun (I, A) =>
(sX1_breakUp x1 x2 I J A B).bind fun (I, J, A, B) =>
if x3 = (-1 : Int32) then
(some ((I 53), I, J, A, B))
else
(sX7_isWithin x3 (0 : Int32) ((I 53) - (1 : Int32))).bind fun r_51 =>
if r_51 = 0 then
(some ((-1 : Int32), I, J, A, B))
else
ck (inB x3 48) <|
some ((A 52 (ix x3)), I, J, A, B)
set_option maxRecDepth 100000 in
set_option maxHeartbeats 8000000 in
theorem kX7_goes (l : Launch) (D : va_G) (cy : Nat → ClassId) (P0 : Nat → Prop) (q z : Nat → Nat) (tl : va_W) (xx : (Nat → Option Nat) × (Nat → Option Nat) × Nat) (x1 : Int32) (x2 : Int32) (x3 : Int32) (I : Nat → Int32) (J : Nat → Int64) (A : Nat → Nat → Int32) (B : Nat → Nat → Int64) (r : Int32) (I2 : Nat → Int32) (J2 : Nat → Int64) (A2 : Nat → Nat → Int32) (B2 : Nat → Nat → Int64) (hs : sX7_goes x1 x2 x3 I J A B = some (r, I2, J2, A2, B2)) : McC l yX7_goes cX7_goes 4 (some .int) 4 [.ref (q 99), .int x1, .int x2, .int x3] D cy P0 q z tl xx I J A B (some (.int r)) xx I2 J2 A2 B2 := by
  refine C_start rfl (Nat.le_of_ble_eq_true rfl) ?_
  intro p e s m args below meth c H locs C hI ls hl
  have hl : lv_has ls 4 [(0, .ref (q 99)), (1, .int x1), (2, .int x2), (3, .int x3)] := hl
  rw [sX7_goes] at hs
  refine lv_aload_n C.1 C.2.1 dX7_goes_0 rfl (lv_at hl 0 rfl) ?_
  refine lv_iload_n C.1 C.2.1 dX7_goes_1 rfl (lv_at hl 1 rfl) ?_
  refine lv_iload_n C.1 C.2.1 dX7_goes_2 rfl (lv_at hl 2 rfl) ?_
  obtain ⟨r_3, hc, hs⟩ := bd_e hs
  refine C_call C hI (kX7_isBlowing l D cy P0 q z tl xx _ _ _ _ _ _ _ hc) (rv_X7 hI) ml_X7_133 im_X7_isBlowing se_X7_isBlowing ini_X7 co_X7_isBlowing hyX7_isBlowing rfl ⟨by decide, by decide⟩ hl.1 rfl (Nat.le_of_ble_eq_true rfl) dX7_goes_3 (fun H locs hI => ?_)
  refine lv_if_ne (tgt := 11) C.1 C.2.1 dX7_goes_6 (by decide) (fun cn => ?_) (fun cn => ?_)
  · have hs := if_f cn hs
    refine lv_aload_n C.1 C.2.1 dX7_goes_11 rfl (lv_at hl 0 rfl) ?_
    refine cg_X7_2 C hI dX7_goes_12 ?_
    obtain ⟨⟨I, A⟩, hc, hs⟩ := bd_e hs
    refine C_call C hI (kX1_ready l D cy P0 q z tl xx _ _ _ _ _ _ hc) (rv_X1 hI) ml_X7_139 im_X1_ready se_X1_ready ini_X1 co_X1_ready hyX1_ready rfl ⟨by decide, by decide⟩ hl.1 rfl (Nat.le_of_ble_eq_true rfl) dX7_goes_15 (fun H locs hI => ?_)
    refine lv_aload_n C.1 C.2.1 dX7_goes_18 rfl (lv_at hl 0 rfl) ?_
    refine cg_X7_2 C hI dX7_goes_19 ?_
    refine lv_iload_n C.1 C.2.1 dX7_goes_22 rfl (lv_at hl 1 rfl) ?_
    refine lv_iload_n C.1 C.2.1 dX7_goes_23 rfl (lv_at hl 2 rfl) ?_
    obtain ⟨⟨I, J, A, B⟩, hc, hs⟩ := bd_e hs
    refine C_call C hI (kX1_breakUp l D cy P0 q z tl xx _ _ _ _ _ _ _ _ _ _ hc) (rv_X1 hI) ml_X7_152 im_X1_breakUp se_X1_breakUp ini_X1 co_X1_breakUp hyX1_breakUp rfl ⟨by decide, by decide⟩ hl.1 rfl (Nat.le_of_ble_eq_true rfl) dX7_goes_24 (fun H locs hI => ?_)
    refine lv_iload_n C.1 C.2.1 dX7_goes_27 rfl (lv_at hl 3 rfl) ?_
    refine lv_iconst (v := -1) C.1 C.2.1 dX7_goes_28 (by decide) ?_
    refine lv_icmp_ne (tgt := 40) C.1 C.2.1 dX7_goes_29 (by decide) (fun cn => ?_) (fun cn => ?_)
    · have hs := if_f cn hs
      refine lv_iload_n C.1 C.2.1 dX7_goes_40 rfl (lv_at hl 3 rfl) ?_
      refine lv_iconst (v := 0) C.1 C.2.1 dX7_goes_41 (by decide) ?_
      refine lv_aload_n C.1 C.2.1 dX7_goes_42 rfl (lv_at hl 0 rfl) ?_
      refine cg_X7_2 C hI dX7_goes_43 ?_
      refine cg_X7_53 C hI dX7_goes_46 ?_
      refine lv_iconst (v := 1) C.1 C.2.1 dX7_goes_49 (by decide) ?_
      refine lv_isub C.1 C.2.1 dX7_goes_50 ?_
      obtain ⟨r_51, hc, hs⟩ := bd_e hs
      refine S_call (h := 4) C (kX7_isWithin l _ _ _ _ hc) ml_X7_80 st_X7_isWithin ini_X7 co_X7_isWithin hyX7_isWithin rfl ⟨by decide, by decide⟩ hl.1 rfl (Nat.le_of_ble_eq_true rfl) dX7_goes_51 ⟨Nat.le_refl 0, Nat.le_refl 0, Nat.le_refl _, Nat.le_refl _⟩ ?_
      refine lv_if_eq (tgt := 69) C.1 C.2.1 dX7_goes_54 (by decide) (fun cn => ?_) (fun cn => ?_)
      · have hs := if_t cn hs
        refine lv_iconst (v := -1) C.1 C.2.1 dX7_goes_69 (by decide) ?_
        obtain ⟨rfl, rfl, rfl, rfl, rfl⟩ := so5 hs
        exact C_iret C hI dX7_goes_70
      · have hs := if_f cn hs
        refine lv_aload_n C.1 C.2.1 dX7_goes_57 rfl (lv_at hl 0 rfl) ?_
        refine cg_X7_2 C hI dX7_goes_58 ?_
        refine cg_X7_52 C hI dX7_goes_61 ?_
        refine lv_iload_n C.1 C.2.1 dX7_goes_64 rfl (lv_at hl 3 rfl) ?_
        obtain ⟨hk, hs⟩ := ck_e hs
        refine ca_52 C hI hk dX7_goes_65 ?_
        refine lv_goto (tgt := 70) C.1 C.2.1 dX7_goes_66 (by decide) ?_
        obtain ⟨rfl, rfl, rfl, rfl, rfl⟩ := so5 hs
        exact C_iret C hI dX7_goes_70
    · have hs := if_t cn hs
      refine lv_aload_n C.1 C.2.1 dX7_goes_32 rfl (lv_at hl 0 rfl) ?_
      refine cg_X7_2 C hI dX7_goes_33 ?_
      refine cg_X7_53 C hI dX7_goes_36 ?_
      obtain ⟨rfl, rfl, rfl, rfl, rfl⟩ := so5 hs
      exact C_iret C hI dX7_goes_39
  · have hs := if_t cn hs
    refine lv_iconst (v := -1) C.1 C.2.1 dX7_goes_9 (by decide) ?_
    obtain ⟨rfl, rfl, rfl, rfl, rfl⟩ := so5 hs
    exact C_iret C hI dX7_goes_10

def sX7_falls (x1 : Int32) (x2 : Int32) (I : Nat → Int32) (J : Nat → Int64) (A : Nat → Nat → Int32) (B : Nat → Nat → Int64) : Option ((Int32) × (Nat → Int32) × (Nat → Int64) × (Nat → Nat → Int32) × (Nat → Nat → Int64)) :=
(sX7_isBlowing x1 x2 I J A B).bind fun r_3 =>
if r_3 = 0 then
(some ((-1 : Int32), I, J, A, B))
else
(sX1_ready  I J A B).bind fun (I, A) =>
(sX1_breakUp x1 x2 I J A B).bind fun (I, J, A, B) =>
some ((I 54), I, J, A, B)
set_option maxRecDepth 100000 in
set_option maxHeartbeats 8000000 in
theorem kX7_falls (l : Launch) (D : va_G) (cy : Nat → ClassId) (P0 : Nat → Prop) (q z : Nat → Nat) (tl : va_W) (xx : (Nat → Option Nat) × (Nat → Option Nat) × Nat) (x1 : Int32) (x2 : Int32) (I : Nat → Int32) (J : Nat → Int64) (A : Nat → Nat → Int32) (B : Nat → Nat → Int64) (r : Int32) (I2 : Nat → Int32) (J2 : Nat → Int64) (A2 : Nat → Nat → Int32) (B2 : Nat → Nat → Int64) (hs : sX7_falls x1 x2 I J A B = some (r, I2, J2, A2, B2)) : McC l yX7_falls cX7_falls 3 (some .int) 4 [.ref (q 99), .int x1, .int x2] D cy P0 q z tl xx I J A B (some (.int r)) xx I2 J2 A2 B2 := by
  refine C_start rfl (Nat.le_of_ble_eq_true rfl) ?_
  intro p e s m args below meth c H locs C hI ls hl
  have hl : lv_has ls 3 [(0, .ref (q 99)), (1, .int x1), (2, .int x2)] := hl
  rw [sX7_falls] at hs
  refine lv_aload_n C.1 C.2.1 dX7_falls_0 rfl (lv_at hl 0 rfl) ?_
  refine lv_iload_n C.1 C.2.1 dX7_falls_1 rfl (lv_at hl 1 rfl) ?_
  refine lv_iload_n C.1 C.2.1 dX7_falls_2 rfl (lv_at hl 2 rfl) ?_
  obtain ⟨r_3, hc, hs⟩ := bd_e hs
  refine C_call C hI (kX7_isBlowing l D cy P0 q z tl xx _ _ _ _ _ _ _ hc) (rv_X7 hI) ml_X7_133 im_X7_isBlowing se_X7_isBlowing ini_X7 co_X7_isBlowing hyX7_isBlowing rfl ⟨by decide, by decide⟩ hl.1 rfl (Nat.le_of_ble_eq_true rfl) dX7_falls_3 (fun H locs hI => ?_)
  refine lv_if_ne (tgt := 11) C.1 C.2.1 dX7_falls_6 (by decide) (fun cn => ?_) (fun cn => ?_)
  · have hs := if_f cn hs
    refine lv_aload_n C.1 C.2.1 dX7_falls_11 rfl (lv_at hl 0 rfl) ?_
    refine cg_X7_2 C hI dX7_falls_12 ?_
    obtain ⟨⟨I, A⟩, hc, hs⟩ := bd_e hs
    refine C_call C hI (kX1_ready l D cy P0 q z tl xx _ _ _ _ _ _ hc) (rv_X1 hI) ml_X7_139 im_X1_ready se_X1_ready ini_X1 co_X1_ready hyX1_ready rfl ⟨by decide, by decide⟩ hl.1 rfl (Nat.le_of_ble_eq_true rfl) dX7_falls_15 (fun H locs hI => ?_)
    refine lv_aload_n C.1 C.2.1 dX7_falls_18 rfl (lv_at hl 0 rfl) ?_
    refine cg_X7_2 C hI dX7_falls_19 ?_
    refine lv_iload_n C.1 C.2.1 dX7_falls_22 rfl (lv_at hl 1 rfl) ?_
    refine lv_iload_n C.1 C.2.1 dX7_falls_23 rfl (lv_at hl 2 rfl) ?_
    obtain ⟨⟨I, J, A, B⟩, hc, hs⟩ := bd_e hs
    refine C_call C hI (kX1_breakUp l D cy P0 q z tl xx _ _ _ _ _ _ _ _ _ _ hc) (rv_X1 hI) ml_X7_152 im_X1_breakUp se_X1_breakUp ini_X1 co_X1_breakUp hyX1_breakUp rfl ⟨by decide, by decide⟩ hl.1 rfl (Nat.le_of_ble_eq_true rfl) dX7_falls_24 (fun H locs hI => ?_)
    refine lv_aload_n C.1 C.2.1 dX7_falls_27 rfl (lv_at hl 0 rfl) ?_
    refine cg_X7_2 C hI dX7_falls_28 ?_
    refine cg_X7_54 C hI dX7_falls_31 ?_
    obtain ⟨rfl, rfl, rfl, rfl, rfl⟩ := so5 hs
    exact C_iret C hI dX7_falls_34
  · have hs := if_t cn hs
    refine lv_iconst (v := -1) C.1 C.2.1 dX7_falls_9 (by decide) ?_
    obtain ⟨rfl, rfl, rfl, rfl, rfl⟩ := so5 hs
    exact C_iret C hI dX7_falls_10

def lX7_move_17 : Nat → Int32 → (Nat → Int32) → (Nat → Int64) → (Nat → Nat → Int32) → (Nat → Nat → Int64) → Option ((Int32 × (Nat → Int32) × (Nat → Int64) × (Nat → Nat → Int32) × (Nat → Nat → Int64)) ⊕ ((Nat → Int32) × (Nat → Int64) × (Nat → Nat → Int32) × (Nat → Nat → Int64)))
  | 0, _, _, _, _, _ => none
  | n + 1, x1, I, J, A, B =>
    if (sv_1 (ix (3 : Int32))) < x1 then
    (some (.inr (I, J, A, B)))
    else
    (sX1_standLegAt x1 I J A B).bind fun I =>
    (sX1_facesAreEnoughForAll  I J A B).bind fun (r_38, J, A, B) =>
    if r_38 = 0 then
    (gv (x1 + 1) fun x1_46 =>
    lX7_move_17 n x1_46 I J A B)
    else
    some (.inl (x1, I, J, A, B))
def sX7_move (I : Nat → Int32) (J : Nat → Int64) (A : Nat → Nat → Int32) (B : Nat → Nat → Int64) : Option ((Int32) × (Nat → Int32) × (Nat → Int64) × (Nat → Nat → Int32) × (Nat → Nat → Int64)) :=
(sX1_ready  I J A B).bind fun (I, A) =>
gv (A 15 (ix (3 : Int32))) fun x1_16 =>
(lX7_move_17 FU x1_16 I J A B).bind fun o_17 => match o_17 with
| .inl (x1_17, I, J, A, B) =>
some (x1_17, I, J, A, B)
| .inr (I, J, A, B) =>
some ((-1 : Int32), I, J, A, B)
set_option maxRecDepth 100000 in
set_option maxHeartbeats 8000000 in
theorem kX7_move (l : Launch) (D : va_G) (cy : Nat → ClassId) (P0 : Nat → Prop) (q z : Nat → Nat) (tl : va_W) (xx : (Nat → Option Nat) × (Nat → Option Nat) × Nat) (I : Nat → Int32) (J : Nat → Int64) (A : Nat → Nat → Int32) (B : Nat → Nat → Int64) (r : Int32) (I2 : Nat → Int32) (J2 : Nat → Int64) (A2 : Nat → Nat → Int32) (B2 : Nat → Nat → Int64) (hs : sX7_move I J A B = some (r, I2, J2, A2, B2)) : McC l yX7_move cX7_move 2 (some .int) 4 [.ref (q 99)] D cy P0 q z tl xx I J A B (some (.int r)) xx I2 J2 A2 B2 := by
  refine C_start rfl (Nat.le_of_ble_eq_true rfl) ?_
  intro p e s m args below meth c H locs C hI ls hl
  have hl : lv_has ls 2 [(0, .ref (q 99))] := hl
  rw [sX7_move] at hs
  refine lv_aload_n C.1 C.2.1 dX7_move_0 rfl (lv_at hl 0 rfl) ?_
  refine cg_X7_2 C hI dX7_move_1 ?_
  obtain ⟨⟨I, A⟩, hc, hs⟩ := bd_e hs
  refine C_call C hI (kX1_ready l D cy P0 q z tl xx _ _ _ _ _ _ hc) (rv_X1 hI) ml_X7_139 im_X1_ready se_X1_ready ini_X1 co_X1_ready hyX1_ready rfl ⟨by decide, by decide⟩ hl.1 rfl (Nat.le_of_ble_eq_true rfl) dX7_move_4 (fun H locs hI => ?_)
  refine lv_aload_n C.1 C.2.1 dX7_move_7 rfl (lv_at hl 0 rfl) ?_
  refine cg_X7_0 C hI dX7_move_8 ?_
  refine cg_X7_15 C hI dX7_move_11 ?_
  refine lv_iconst (v := 3) C.1 C.2.1 dX7_move_14 (by decide) ?_
  refine ca_15 C hI (by decide) dX7_move_15 ?_
  refine lv_topi (fun x1_16 ex1_16 => ?_)
  have hs := gv_at ex1_16 hs
  refine lv_istore_n (lv' := [(1, .int x1_16), (0, .ref (q 99))]) C.1 C.2.1 dX7_move_16 rfl hl (by decide) rfl (fun ls hl => ?_)
  have KL_17 : ∀ (n : Nat) (x1 : Int32) (I : Nat → Int32) (J : Nat → Int64) (A : Nat → Nat → Int32) (B : Nat → Nat → Int64) (o : (Int32 × (Nat → Int32) × (Nat → Int64) × (Nat → Nat → Int32) × (Nat → Nat → Int64)) ⊕ ((Nat → Int32) × (Nat → Int64) × (Nat → Nat → Int32) × (Nat → Nat → Int64))) (Q : State → Prop) (H : Heap) (locs : List Loc) (ls : Array Slot), lX7_move_17 n x1 I J A B = some o → CI D cy s P0 s.heap H locs q z tl xx I J A B → lv_has ls 2 [(0, .ref (q 99)), (1, .int x1)] → (∀ (o1_0 : Int32) (I_0 : Nat → Int32) (J_0 : Nat → Int64) (A_0 : Nat → Nat → Int32) (B_0 : Nat → Nat → Int64) (H : Heap) (locs : List Loc) (ls : Array Slot), o = (.inl (o1_0, I_0, J_0, A_0, B_0)) → CI D cy s P0 s.heap H locs q z tl xx I_0 J_0 A_0 B_0 → lv_has ls 2 [(1, .int o1_0)] → W p l e (rmL 4) s m args below meth c H locs 0 0 Q (F0 m 44 ls [])) → (∀ (I_1 : Nat → Int32) (J_1 : Nat → Int64) (A_1 : Nat → Nat → Int32) (B_1 : Nat → Nat → Int64) (H : Heap) (locs : List Loc) (ls : Array Slot), o = (.inr (I_1, J_1, A_1, B_1)) → CI D cy s P0 s.heap H locs q z tl xx I_1 J_1 A_1 B_1 → lv_has ls 2 [] → W p l e (rmL 4) s m args below meth c H locs 0 0 Q (F0 m 52 ls [])) → W p l e (rmL 4) s m args below meth c H locs 0 0 Q (F0 m 17 ls []) := by
    intro n; induction n with
    | zero => intro x1 I J A B o Q H locs ls hs; rw [lX7_move_17] at hs; cases hs
    | succ n ih =>
      intro x1 I J A B o Q H locs ls hs hI hl kk0 kk1
      rw [lX7_move_17] at hs
      refine lv_iload_n C.1 C.2.1 dX7_move_17 rfl (lv_at hl 1 rfl) ?_
      refine cz_X7_1 C hI dX7_move_18 ?_
      refine lv_iconst (v := 3) C.1 C.2.1 dX7_move_21 (by decide) ?_
      refine ct_1 C hI (by decide) dX7_move_22 ?_
      refine lv_icmp_gt (tgt := 52) C.1 C.2.1 dX7_move_23 (by decide) (fun cn => ?_) (fun cn => ?_)
      · have hs := if_t cn hs
        have eo := (Option.some.inj hs).symm
        exact kk1 _ _ _ _ _ _ _ eo hI (lv_sub hl [] rfl)
      · have hs := if_f cn hs
        refine lv_aload_n C.1 C.2.1 dX7_move_26 rfl (lv_at hl 0 rfl) ?_
        refine cg_X7_2 C hI dX7_move_27 ?_
        refine lv_iload_n C.1 C.2.1 dX7_move_30 rfl (lv_at hl 1 rfl) ?_
        obtain ⟨I, hc, hs⟩ := bd_e hs
        refine C_call C hI (kX1_standLegAt l D cy P0 q z tl xx _ _ _ _ _ _ hc) (rv_X1 hI) ml_X7_267 im_X1_standLegAt se_X1_standLegAt ini_X1 co_X1_standLegAt hyX1_standLegAt rfl ⟨by decide, by decide⟩ hl.1 rfl (Nat.le_of_ble_eq_true rfl) dX7_move_31 (fun H locs hI => ?_)
        refine lv_aload_n C.1 C.2.1 dX7_move_34 rfl (lv_at hl 0 rfl) ?_
        refine cg_X7_2 C hI dX7_move_35 ?_
        obtain ⟨⟨r_38, J, A, B⟩, hc, hs⟩ := bd_e hs
        refine C_call C hI (kX1_facesAreEnoughForAll l D cy P0 q z tl xx _ _ _ _ _ _ _ _ hc) (rv_X1 hI) ml_X7_270 im_X1_facesAreEnoughForAll se_X1_facesAreEnoughForAll ini_X1 co_X1_facesAreEnoughForAll hyX1_facesAreEnoughForAll rfl ⟨by decide, by decide⟩ hl.1 rfl (Nat.le_of_ble_eq_true rfl) dX7_move_38 (fun H locs hI => ?_)
        refine lv_if_eq (tgt := 46) C.1 C.2.1 dX7_move_41 (by decide) (fun cn => ?_) (fun cn => ?_)
        · have hs := if_t cn hs
          obtain ⟨x1_46, ex1_46⟩ : ∃ y : Int32, y = (x1 + 1) := ⟨_, rfl⟩
          have hs := gv_at ex1_46 hs
          refine lv_iinc (v := x1_46) (lv' := [(1, .int x1_46), (0, .ref (q 99))]) C.1 C.2.1 dX7_move_46 hl (k := 1) rfl (by rw [ex1_46]; rfl) (by decide) rfl (fun ls hl => ?_)
          refine lv_goto (tgt := 17) C.1 C.2.1 dX7_move_49 (by decide) ?_
          exact ih _ _ _ _ _ _ _ _ _ _ hs hI (lv_sub hl [1, 0] rfl) kk0 kk1
        · have hs := if_f cn hs
          have eo := (Option.some.inj hs).symm
          exact kk0 _ _ _ _ _ _ _ _ eo hI (lv_sub hl [1] rfl)
  obtain ⟨o_17, hL, hs⟩ := bd_e hs
  refine KL_17 FU _ _ _ _ _ _ _ _ _ _ hL hI (lv_sub hl [1, 0] rfl) (fun x1_17 I J A B H locs ls eo hI hl => ?_) (fun I J A B H locs ls eo hI hl => ?_)
  · rw [eo] at hs
    refine lv_iload_n C.1 C.2.1 dX7_move_44 rfl (lv_at hl 0 rfl) ?_
    obtain ⟨rfl, rfl, rfl, rfl, rfl⟩ := so5 hs
    exact C_iret C hI dX7_move_45
  · rw [eo] at hs
    refine lv_iconst (v := -1) C.1 C.2.1 dX7_move_52 (by decide) ?_
    obtain ⟨rfl, rfl, rfl, rfl, rfl⟩ := so5 hs
    exact C_iret C hI dX7_move_53

def sX7_under (x1 : Int32) (x2 : Int32) (I : Nat → Int32) (J : Nat → Int64) (A : Nat → Nat → Int32) (B : Nat → Nat → Int64) : Option ((Int32) × (Nat → Int32) × (Nat → Int64) × (Nat → Nat → Int32) × (Nat → Nat → Int64)) :=
(sX7_isBlowing x1 x2 I J A B).bind fun r_3 =>
if r_3 = 0 then
(some ((-1 : Int32), I, J, A, B))
else
(sX1_ready  I J A B).bind fun (I, A) =>
(sX1_breakUp x1 x2 I J A B).bind fun (I, J, A, B) =>
if (I 54) = (-1 : Int32) then
(some ((0 : Int32), I, J, A, B))
else
(sX5_cell 0 x1 (0 : Int32) I J A B).bind fun r_53 =>
(sX4_peopleUnder r_53 ((3 : Int32) * ((6 : Int32) - (I 54))) I J A B).bind fun r_68 =>
some (r_68, I, J, A, B)
set_option maxRecDepth 100000 in
set_option maxHeartbeats 8000000 in
theorem kX7_under (l : Launch) (D : va_G) (cy : Nat → ClassId) (P0 : Nat → Prop) (q z : Nat → Nat) (tl : va_W) (xx : (Nat → Option Nat) × (Nat → Option Nat) × Nat) (x1 : Int32) (x2 : Int32) (I : Nat → Int32) (J : Nat → Int64) (A : Nat → Nat → Int32) (B : Nat → Nat → Int64) (r : Int32) (I2 : Nat → Int32) (J2 : Nat → Int64) (A2 : Nat → Nat → Int32) (B2 : Nat → Nat → Int64) (hs : sX7_under x1 x2 I J A B = some (r, I2, J2, A2, B2)) : McC l yX7_under cX7_under 3 (some .int) 4 [.ref (q 99), .int x1, .int x2] D cy P0 q z tl xx I J A B (some (.int r)) xx I2 J2 A2 B2 := by
  refine C_start rfl (Nat.le_of_ble_eq_true rfl) ?_
  intro p e s m args below meth c H locs C hI ls hl
  have hl : lv_has ls 3 [(0, .ref (q 99)), (1, .int x1), (2, .int x2)] := hl
  rw [sX7_under] at hs
  refine lv_aload_n C.1 C.2.1 dX7_under_0 rfl (lv_at hl 0 rfl) ?_
  refine lv_iload_n C.1 C.2.1 dX7_under_1 rfl (lv_at hl 1 rfl) ?_
  refine lv_iload_n C.1 C.2.1 dX7_under_2 rfl (lv_at hl 2 rfl) ?_
  obtain ⟨r_3, hc, hs⟩ := bd_e hs
  refine C_call C hI (kX7_isBlowing l D cy P0 q z tl xx _ _ _ _ _ _ _ hc) (rv_X7 hI) ml_X7_133 im_X7_isBlowing se_X7_isBlowing ini_X7 co_X7_isBlowing hyX7_isBlowing rfl ⟨by decide, by decide⟩ hl.1 rfl (Nat.le_of_ble_eq_true rfl) dX7_under_3 (fun H locs hI => ?_)
  refine lv_if_ne (tgt := 11) C.1 C.2.1 dX7_under_6 (by decide) (fun cn => ?_) (fun cn => ?_)
  · have hs := if_f cn hs
    refine lv_aload_n C.1 C.2.1 dX7_under_11 rfl (lv_at hl 0 rfl) ?_
    refine cg_X7_2 C hI dX7_under_12 ?_
    obtain ⟨⟨I, A⟩, hc, hs⟩ := bd_e hs
    refine C_call C hI (kX1_ready l D cy P0 q z tl xx _ _ _ _ _ _ hc) (rv_X1 hI) ml_X7_139 im_X1_ready se_X1_ready ini_X1 co_X1_ready hyX1_ready rfl ⟨by decide, by decide⟩ hl.1 rfl (Nat.le_of_ble_eq_true rfl) dX7_under_15 (fun H locs hI => ?_)
    refine lv_aload_n C.1 C.2.1 dX7_under_18 rfl (lv_at hl 0 rfl) ?_
    refine cg_X7_2 C hI dX7_under_19 ?_
    refine lv_iload_n C.1 C.2.1 dX7_under_22 rfl (lv_at hl 1 rfl) ?_
    refine lv_iload_n C.1 C.2.1 dX7_under_23 rfl (lv_at hl 2 rfl) ?_
    obtain ⟨⟨I, J, A, B⟩, hc, hs⟩ := bd_e hs
    refine C_call C hI (kX1_breakUp l D cy P0 q z tl xx _ _ _ _ _ _ _ _ _ _ hc) (rv_X1 hI) ml_X7_152 im_X1_breakUp se_X1_breakUp ini_X1 co_X1_breakUp hyX1_breakUp rfl ⟨by decide, by decide⟩ hl.1 rfl (Nat.le_of_ble_eq_true rfl) dX7_under_24 (fun H locs hI => ?_)
    refine lv_aload_n C.1 C.2.1 dX7_under_27 rfl (lv_at hl 0 rfl) ?_
    refine cg_X7_2 C hI dX7_under_28 ?_
    refine cg_X7_54 C hI dX7_under_31 ?_
    refine lv_iconst (v := -1) C.1 C.2.1 dX7_under_34 (by decide) ?_
    refine lv_icmp_ne (tgt := 40) C.1 C.2.1 dX7_under_35 (by decide) (fun cn => ?_) (fun cn => ?_)
    · have hs := if_f cn hs
      refine lv_aload_n C.1 C.2.1 dX7_under_40 rfl (lv_at hl 0 rfl) ?_
      refine cg_X7_0 C hI dX7_under_41 ?_
      refine lv_aload_n C.1 C.2.1 dX7_under_44 rfl (lv_at hl 0 rfl) ?_
      refine cg_X7_0 C hI dX7_under_45 ?_
      refine cg_X7_17 C hI dX7_under_48 ?_
      refine lv_iload_n C.1 C.2.1 dX7_under_51 rfl (lv_at hl 1 rfl) ?_
      refine lv_iconst (v := 0) C.1 C.2.1 dX7_under_52 (by decide) ?_
      obtain ⟨r_53, hc, hs⟩ := bd_e hs
      refine C_call C hI (kX5_cell l D cy P0 q z tl xx 0 (by decide) _ _ _ _ _ _ _ hc) (rv_X5 hI 0 (by decide)) ml_X7_203 im_X5_cell se_X5_cell ini_X5 co_X5_cell hyX5_cell rfl ⟨by decide, by decide⟩ hl.1 rfl (Nat.le_of_ble_eq_true rfl) dX7_under_53 (fun H locs hI => ?_)
      refine lv_iconst (v := 3) C.1 C.2.1 dX7_under_56 (by decide) ?_
      refine lv_bipush (v := 6) C.1 C.2.1 dX7_under_57 (by decide) ?_
      refine lv_aload_n C.1 C.2.1 dX7_under_59 rfl (lv_at hl 0 rfl) ?_
      refine cg_X7_2 C hI dX7_under_60 ?_
      refine cg_X7_54 C hI dX7_under_63 ?_
      refine lv_isub C.1 C.2.1 dX7_under_66 ?_
      refine lv_imul C.1 C.2.1 dX7_under_67 ?_
      obtain ⟨r_68, hc, hs⟩ := bd_e hs
      refine C_call C hI (kX4_peopleUnder l D cy P0 q z tl xx _ _ _ _ _ _ _ hc) (rv_X4 hI) ml_X7_289 im_X4_peopleUnder se_X4_peopleUnder ini_X4 co_X4_peopleUnder hyX4_peopleUnder rfl ⟨by decide, by decide⟩ hl.1 rfl (Nat.le_of_ble_eq_true rfl) dX7_under_68 (fun H locs hI => ?_)
      obtain ⟨rfl, rfl, rfl, rfl, rfl⟩ := so5 hs
      exact C_iret C hI dX7_under_71
    · have hs := if_t cn hs
      refine lv_iconst (v := 0) C.1 C.2.1 dX7_under_38 (by decide) ?_
      obtain ⟨rfl, rfl, rfl, rfl, rfl⟩ := so5 hs
      exact C_iret C hI dX7_under_39
  · have hs := if_t cn hs
    refine lv_iconst (v := -1) C.1 C.2.1 dX7_under_9 (by decide) ?_
    obtain ⟨rfl, rfl, rfl, rfl, rfl⟩ := so5 hs
    exact C_iret C hI dX7_under_10

def lX2_weighSets_17 : Nat → Int32 → (Nat → Int32) → (Nat → Int64) → (Nat → Nat → Int32) → (Nat → Nat → Int64) → Option ((Nat → Int32) × (Nat → Int64) × (Nat → Nat → Int32) × (Nat → Nat → Int64))
  | 0, _, _, _, _, _ => none
  | n + 1, x1, I, J, A, B =>
    if (6 : Int32) ≤ x1 then
    (some (I, J, A, B))
    else
    (sX2_addFallsOf x1 I J A B).bind fun (I, J, A, B) =>
    gv (x1 + 1) fun x1_28 =>
    lX2_weighSets_17 n x1_28 I J A B
def lX2_weighSets_36 : Nat → Int32 → (Nat → Int32) → (Nat → Int64) → (Nat → Nat → Int32) → (Nat → Nat → Int64) → Option ((Nat → Nat → Int32))
  | 0, _, _, _, _, _ => none
  | n + 1, x1, I, J, A, B =>
    (sX2_sets  I J A B).bind fun r_38 =>
    if r_38 ≤ x1 then
    (some A)
    else
    ck (inB x1 512) <|
    (sX4_yearOf (A 77 (ix x1)) (A 15 (ix (5 : Int32))) I J A B).bind fun r_68 =>
    ck (inB x1 512) <|
    gv (va_up A 79 (upd (A 79) (ix x1) r_68)) fun A =>
    gv (x1 + 1) fun x1_72 =>
    lX2_weighSets_36 n x1_72 I J A B
def sX2_weighSets (I : Nat → Int32) (J : Nat → Int64) (A : Nat → Nat → Int32) (B : Nat → Nat → Int64) : Option ((Nat → Int32) × (Nat → Int64) × (Nat → Nat → Int32) × (Nat → Nat → Int64)) :=
(sX1_ready  I J A B).bind fun (I, A) =>
gv (va_up A 77 (fillA 512 (0 : Int32) (A 77))) fun A =>
(lX2_weighSets_17 FU (0 : Int32) I J A B).bind fun (I, J, A, B) =>
(lX2_weighSets_36 FU (0 : Int32) I J A B).bind fun A =>
some (I, J, A, B)
set_option maxRecDepth 100000 in
set_option maxHeartbeats 8000000 in
theorem kX2_weighSets (l : Launch) (D : va_G) (cy : Nat → ClassId) (P0 : Nat → Prop) (q z : Nat → Nat) (tl : va_W) (xx : (Nat → Option Nat) × (Nat → Option Nat) × Nat) (I : Nat → Int32) (J : Nat → Int64) (A : Nat → Nat → Int32) (B : Nat → Nat → Int64) (I2 : Nat → Int32) (J2 : Nat → Int64) (A2 : Nat → Nat → Int32) (B2 : Nat → Nat → Int64) (hs : sX2_weighSets I J A B = some (I2, J2, A2, B2)) : McC l yX2_weighSets cX2_weighSets 2 none 5 [.ref (q 3)] D cy P0 q z tl xx I J A B none xx I2 J2 A2 B2 := by
  refine C_start rfl (Nat.le_of_ble_eq_true rfl) ?_
  intro p e s m args below meth c H locs C hI ls hl
  have hl : lv_has ls 2 [(0, .ref (q 3))] := hl
  rw [sX2_weighSets] at hs
  refine lv_aload_n C.1 C.2.1 dX2_weighSets_0 rfl (lv_at hl 0 rfl) ?_
  refine cg_X2_71 C hI dX2_weighSets_1 ?_
  obtain ⟨⟨I, A⟩, hc, hs⟩ := bd_e hs
  refine C_call C hI (kX1_ready l D cy P0 q z tl xx _ _ _ _ _ _ hc) (rv_X1 hI) ml_X2_57 im_X1_ready se_X1_ready ini_X1 co_X1_ready hyX1_ready rfl ⟨by decide, by decide⟩ hl.1 rfl (Nat.le_of_ble_eq_true rfl) dX2_weighSets_4 (fun H locs hI => ?_)
  refine lv_aload_n C.1 C.2.1 dX2_weighSets_7 rfl (lv_at hl 0 rfl) ?_
  refine cg_X2_77 C hI dX2_weighSets_8 ?_
  refine lv_iconst (v := 0) C.1 C.2.1 dX2_weighSets_11 (by decide) ?_
  refine c_fill_77 C hI ml_X2_62 (by decide) hl.1 (Nat.le_of_ble_eq_true rfl) dX2_weighSets_12 (fun H locs hI => ?_)
  have hs := gv_be hs
  refine lv_iconst (v := 0) C.1 C.2.1 dX2_weighSets_15 (by decide) ?_
  refine lv_istore_n (lv' := [(1, .int (0 : Int32)), (0, .ref (q 3))]) C.1 C.2.1 dX2_weighSets_16 rfl hl (by decide) rfl (fun ls hl => ?_)
  have KL_17 : ∀ (n : Nat) (x1 : Int32) (I : Nat → Int32) (J : Nat → Int64) (A : Nat → Nat → Int32) (B : Nat → Nat → Int64) (o : (Nat → Int32) × (Nat → Int64) × (Nat → Nat → Int32) × (Nat → Nat → Int64)) (Q : State → Prop) (H : Heap) (locs : List Loc) (ls : Array Slot), lX2_weighSets_17 n x1 I J A B = some o → CI D cy s P0 s.heap H locs q z tl xx I J A B → lv_has ls 2 [(0, .ref (q 3)), (1, .int x1)] → (∀ (I_0 : Nat → Int32) (J_0 : Nat → Int64) (A_0 : Nat → Nat → Int32) (B_0 : Nat → Nat → Int64) (H : Heap) (locs : List Loc) (ls : Array Slot), o = (I_0, J_0, A_0, B_0) → CI D cy s P0 s.heap H locs q z tl xx I_0 J_0 A_0 B_0 → lv_has ls 2 [(0, .ref (q 3))] → W p l e (rmL 5) s m args below meth c H locs 0 0 Q (F0 m 34 ls [])) → W p l e (rmL 5) s m args below meth c H locs 0 0 Q (F0 m 17 ls []) := by
    intro n; induction n with
    | zero => intro x1 I J A B o Q H locs ls hs; rw [lX2_weighSets_17] at hs; cases hs
    | succ n ih =>
      intro x1 I J A B o Q H locs ls hs hI hl kk0
      rw [lX2_weighSets_17] at hs
      refine lv_iload_n C.1 C.2.1 dX2_weighSets_17 rfl (lv_at hl 1 rfl) ?_
      refine lv_bipush (v := 6) C.1 C.2.1 dX2_weighSets_18 (by decide) ?_
      refine lv_icmp_ge (tgt := 34) C.1 C.2.1 dX2_weighSets_20 (by decide) (fun cn => ?_) (fun cn => ?_)
      · have hs := if_t cn hs
        have eo := (Option.some.inj hs).symm
        exact kk0 _ _ _ _ _ _ _ eo hI (lv_sub hl [0] rfl)
      · have hs := if_f cn hs
        refine lv_aload_n C.1 C.2.1 dX2_weighSets_23 rfl (lv_at hl 0 rfl) ?_
        refine lv_iload_n C.1 C.2.1 dX2_weighSets_24 rfl (lv_at hl 1 rfl) ?_
        obtain ⟨⟨I, J, A, B⟩, hc, hs⟩ := bd_e hs
        refine C_call C hI (kX2_addFallsOf l D cy P0 q z tl xx _ _ _ _ _ _ _ _ _ hc) (rv_X2 hI) ml_X2_68 im_X2_addFallsOf se_X2_addFallsOf ini_X2 co_X2_addFallsOf hyX2_addFallsOf rfl ⟨by decide, by decide⟩ hl.1 rfl (Nat.le_of_ble_eq_true rfl) dX2_weighSets_25 (fun H locs hI => ?_)
        obtain ⟨x1_28, ex1_28⟩ : ∃ y : Int32, y = (x1 + 1) := ⟨_, rfl⟩
        have hs := gv_at ex1_28 hs
        refine lv_iinc (v := x1_28) (lv' := [(1, .int x1_28), (0, .ref (q 3))]) C.1 C.2.1 dX2_weighSets_28 hl (k := 1) rfl (by rw [ex1_28]; rfl) (by decide) rfl (fun ls hl => ?_)
        refine lv_goto (tgt := 17) C.1 C.2.1 dX2_weighSets_31 (by decide) ?_
        exact ih _ _ _ _ _ _ _ _ _ _ hs hI (lv_sub hl [1, 0] rfl) kk0
  obtain ⟨⟨I_L, J_L, A_L, B_L⟩, hL, hs⟩ := bd_e hs
  refine KL_17 FU _ _ _ _ _ _ _ _ _ _ hL hI (lv_sub hl [1, 0] rfl) (fun z0 z1 z2 z3 H locs ls eo hI hl => ?_)
  obtain ⟨rfl, rfl, rfl, rfl⟩ := pr4 eo
  refine lv_iconst (v := 0) C.1 C.2.1 dX2_weighSets_34 (by decide) ?_
  refine lv_istore_n (lv' := [(1, .int (0 : Int32)), (0, .ref (q 3))]) C.1 C.2.1 dX2_weighSets_35 rfl hl (by decide) rfl (fun ls hl => ?_)
  have KL_36 : ∀ (n : Nat) (x1 : Int32) (I : Nat → Int32) (J : Nat → Int64) (A : Nat → Nat → Int32) (B : Nat → Nat → Int64) (o : (Nat → Nat → Int32)) (Q : State → Prop) (H : Heap) (locs : List Loc) (ls : Array Slot), lX2_weighSets_36 n x1 I J A B = some o → CI D cy s P0 s.heap H locs q z tl xx I J A B → lv_has ls 2 [(0, .ref (q 3)), (1, .int x1)] → (∀ (A_0 : Nat → Nat → Int32) (H : Heap) (locs : List Loc) (ls : Array Slot), o = A_0 → CI D cy s P0 s.heap H locs q z tl xx I J A_0 B → lv_has ls 2 [] → W p l e (rmL 5) s m args below meth c H locs 0 0 Q (F0 m 78 ls [])) → W p l e (rmL 5) s m args below meth c H locs 0 0 Q (F0 m 36 ls []) := by
    intro n; induction n with
    | zero => intro x1 I J A B o Q H locs ls hs; rw [lX2_weighSets_36] at hs; cases hs
    | succ n ih =>
      intro x1 I J A B o Q H locs ls hs hI hl kk0
      rw [lX2_weighSets_36] at hs
      refine lv_iload_n C.1 C.2.1 dX2_weighSets_36 rfl (lv_at hl 1 rfl) ?_
      refine lv_aload_n C.1 C.2.1 dX2_weighSets_37 rfl (lv_at hl 0 rfl) ?_
      obtain ⟨r_38, hc, hs⟩ := bd_e hs
      refine C_call C hI (kX2_sets l D cy P0 q z tl xx _ _ _ _ _ hc) (rv_X2 hI) ml_X2_72 im_X2_sets se_X2_sets ini_X2 co_X2_sets hyX2_sets rfl ⟨by decide, by decide⟩ hl.1 rfl (Nat.le_of_ble_eq_true rfl) dX2_weighSets_38 (fun H locs hI => ?_)
      refine lv_icmp_ge (tgt := 78) C.1 C.2.1 dX2_weighSets_41 (by decide) (fun cn => ?_) (fun cn => ?_)
      · have hs := if_t cn hs
        have eo := (Option.some.inj hs).symm
        exact kk0 _ _ _ _ eo hI (lv_sub hl [] rfl)
      · have hs := if_f cn hs
        refine lv_aload_n C.1 C.2.1 dX2_weighSets_44 rfl (lv_at hl 0 rfl) ?_
        refine cg_X2_79 C hI dX2_weighSets_45 ?_
        refine lv_iload_n C.1 C.2.1 dX2_weighSets_48 rfl (lv_at hl 1 rfl) ?_
        refine lv_aload_n C.1 C.2.1 dX2_weighSets_49 rfl (lv_at hl 0 rfl) ?_
        refine cg_X2_70 C hI dX2_weighSets_50 ?_
        refine lv_aload_n C.1 C.2.1 dX2_weighSets_53 rfl (lv_at hl 0 rfl) ?_
        refine cg_X2_77 C hI dX2_weighSets_54 ?_
        refine lv_iload_n C.1 C.2.1 dX2_weighSets_57 rfl (lv_at hl 1 rfl) ?_
        obtain ⟨hk, hs⟩ := ck_e hs
        refine ca_77 C hI hk dX2_weighSets_58 ?_
        refine lv_aload_n C.1 C.2.1 dX2_weighSets_59 rfl (lv_at hl 0 rfl) ?_
        refine cg_X2_70 C hI dX2_weighSets_60 ?_
        refine cg_X2_15 C hI dX2_weighSets_63 ?_
        refine lv_iconst (v := 5) C.1 C.2.1 dX2_weighSets_66 (by decide) ?_
        refine ca_15 C hI (by decide) dX2_weighSets_67 ?_
        obtain ⟨r_68, hc, hs⟩ := bd_e hs
        refine C_call C hI (kX4_yearOf l D cy P0 q z tl xx _ _ _ _ _ _ _ hc) (rv_X4 hI) ml_X2_79 im_X4_yearOf se_X4_yearOf ini_X4 co_X4_yearOf hyX4_yearOf rfl ⟨by decide, by decide⟩ hl.1 rfl (Nat.le_of_ble_eq_true rfl) dX2_weighSets_68 (fun H locs hI => ?_)
        obtain ⟨hk, hs⟩ := ck_e hs
        refine cs_79 C hI hk dX2_weighSets_71 (fun H locs hI => ?_)
        have hs := gv_be hs
        obtain ⟨x1_72, ex1_72⟩ : ∃ y : Int32, y = (x1 + 1) := ⟨_, rfl⟩
        have hs := gv_at ex1_72 hs
        refine lv_iinc (v := x1_72) (lv' := [(1, .int x1_72), (0, .ref (q 3))]) C.1 C.2.1 dX2_weighSets_72 hl (k := 1) rfl (by rw [ex1_72]; rfl) (by decide) rfl (fun ls hl => ?_)
        refine lv_goto (tgt := 36) C.1 C.2.1 dX2_weighSets_75 (by decide) ?_
        exact ih _ _ _ _ _ _ _ _ _ _ hs hI (lv_sub hl [1, 0] rfl) kk0
  obtain ⟨A_L, hL, hs⟩ := bd_e hs
  refine KL_36 FU _ _ _ _ _ _ _ _ _ _ hL hI (lv_sub hl [1, 0] rfl) (fun z0 H locs ls eo hI hl => ?_)
  subst eo
  obtain ⟨rfl, rfl, rfl, rfl⟩ := so4 hs
  exact C_vret C hI dX2_weighSets_78

def lX3_takeWord_0 : Nat → (Nat → Int32) → (Nat → Int64) → (Nat → Nat → Int32) → (Nat → Nat → Int64) → Option ((Nat → Int32))
  | 0, _, _, _, _ => none
  | n + 1, I, J, A, B =>
    if (I 82) ≤ (I 83) then
    (some I)
    else
    ck (inB (I 83) 400) <|
    (sX3_isLetter (A 6 (ix (I 83)))).bind fun r_20 =>
    if r_20 = 0 then
    (some I)
    else
    gv (upd I 83 ((I 83) + (1 : Int32))) fun I =>
    lX3_takeWord_0 n I J A B
def lX3_takeWord_49 : Nat → Int32 → (Nat → Int32) → (Nat → Int64) → (Nat → Nat → Int32) → (Nat → Nat → Int64) → Option ((Nat → Int32))
  | 0, _, _, _, _, _ => none
  | n + 1, x1, I, J, A, B =>
    if (277 : Int32) ≤ x1 then
    (some I)
    else
    if (I 84) = (-3 : Int32) then
    ((sX3_isWord (x1 - (256 : Int32)) I J A B).bind fun r_71 =>
    if r_71 = 0 then
    (gv (x1 + 1) fun x1_82 =>
    lX3_takeWord_49 n x1_82 I J A B)
    else
    gv (upd I 84 x1) fun I =>
    gv (x1 + 1) fun x1_82 =>
    lX3_takeWord_49 n x1_82 I J A B)
    else
    some I
def sX3_takeWord (I : Nat → Int32) (J : Nat → Int64) (A : Nat → Nat → Int32) (B : Nat → Nat → Int64) : Option ((Nat → Int32)) :=
(lX3_takeWord_0 FU I J A B).bind fun I =>
gv (upd I 84 (-3 : Int32)) fun I =>
(lX3_takeWord_49 FU (256 : Int32) I J A B).bind fun I =>
some I
set_option maxRecDepth 100000 in
set_option maxHeartbeats 8000000 in
theorem kX3_takeWord (l : Launch) (D : va_G) (cy : Nat → ClassId) (P0 : Nat → Prop) (q z : Nat → Nat) (tl : va_W) (xx : (Nat → Option Nat) × (Nat → Option Nat) × Nat) (I : Nat → Int32) (J : Nat → Int64) (A : Nat → Nat → Int32) (B : Nat → Nat → Int64) (I2 : Nat → Int32) (hs : sX3_takeWord I J A B = some I2) : McC l yX3_takeWord cX3_takeWord 2 none 5 [.ref (q 4)] D cy P0 q z tl (xx.1, xx.2.1, q 6) I J A B none (xx.1, xx.2.1, q 6) I2 J A B := by
  refine C_start rfl (Nat.le_of_ble_eq_true rfl) ?_
  intro p e s m args below meth c H locs C hI ls hl
  have hl : lv_has ls 2 [(0, .ref (q 4))] := hl
  rw [sX3_takeWord] at hs
  have KL_0 : ∀ (n : Nat) (I : Nat → Int32) (J : Nat → Int64) (A : Nat → Nat → Int32) (B : Nat → Nat → Int64) (o : (Nat → Int32)) (Q : State → Prop) (H : Heap) (locs : List Loc) (ls : Array Slot), lX3_takeWord_0 n I J A B = some o → CI D cy s P0 s.heap H locs q z tl (xx.1, xx.2.1, q 6) I J A B → lv_has ls 2 [(0, .ref (q 4))] → (∀ (I_0 : Nat → Int32) (H : Heap) (locs : List Loc) (ls : Array Slot), o = I_0 → CI D cy s P0 s.heap H locs q z tl (xx.1, xx.2.1, q 6) I_0 J A B → lv_has ls 2 [(0, .ref (q 4))] → W p l e (rmL 5) s m args below meth c H locs 0 0 Q (F0 m 39 ls [])) → W p l e (rmL 5) s m args below meth c H locs 0 0 Q (F0 m 0 ls []) := by
    intro n; induction n with
    | zero => intro I J A B o Q H locs ls hs; rw [lX3_takeWord_0] at hs; cases hs
    | succ n ih =>
      intro I J A B o Q H locs ls hs hI hl kk0
      rw [lX3_takeWord_0] at hs
      refine lv_aload_n C.1 C.2.1 dX3_takeWord_0 rfl (lv_at hl 0 rfl) ?_
      refine cg_X3_83 C hI dX3_takeWord_1 ?_
      refine lv_aload_n C.1 C.2.1 dX3_takeWord_4 rfl (lv_at hl 0 rfl) ?_
      refine cg_X3_82 C hI dX3_takeWord_5 ?_
      refine lv_icmp_ge (tgt := 39) C.1 C.2.1 dX3_takeWord_8 (by decide) (fun cn => ?_) (fun cn => ?_)
      · have hs := if_t cn hs
        have eo := (Option.some.inj hs).symm
        exact kk0 _ _ _ _ eo hI (lv_sub hl [0] rfl)
      · have hs := if_f cn hs
        refine lv_aload_n C.1 C.2.1 dX3_takeWord_11 rfl (lv_at hl 0 rfl) ?_
        refine cg_X3_81 C hI dX3_takeWord_12 ?_
        refine lv_aload_n C.1 C.2.1 dX3_takeWord_15 rfl (lv_at hl 0 rfl) ?_
        refine cg_X3_83 C hI dX3_takeWord_16 ?_
        obtain ⟨hk, hs⟩ := ck_e hs
        refine ca_6 C hI hk dX3_takeWord_19 ?_
        obtain ⟨r_20, hc, hs⟩ := bd_e hs
        refine S_call (h := 5) C (kX3_isLetter l _ _ hc) ml_X3_70 st_X3_isLetter ini_X3 co_X3_isLetter hyX3_isLetter rfl ⟨by decide, by decide⟩ hl.1 rfl (Nat.le_of_ble_eq_true rfl) dX3_takeWord_20 ⟨Nat.le_refl 0, Nat.le_refl 0, Nat.le_refl _, Nat.le_refl _⟩ ?_
        refine lv_if_eq (tgt := 39) C.1 C.2.1 dX3_takeWord_23 (by decide) (fun cn => ?_) (fun cn => ?_)
        · have hs := if_t cn hs
          have eo := (Option.some.inj hs).symm
          exact kk0 _ _ _ _ eo hI (lv_sub hl [0] rfl)
        · have hs := if_f cn hs
          refine lv_aload_n C.1 C.2.1 dX3_takeWord_26 rfl (lv_at hl 0 rfl) ?_
          refine lv_dup C.1 C.2.1 dX3_takeWord_27 rfl ?_
          refine cg_X3_83 C hI dX3_takeWord_28 ?_
          refine lv_iconst (v := 1) C.1 C.2.1 dX3_takeWord_31 (by decide) ?_
          refine lv_iadd C.1 C.2.1 dX3_takeWord_32 ?_
          refine cp_X3_83 C hI dX3_takeWord_33 (fun H locs hI => ?_)
          have hs := gv_be hs
          refine lv_goto (tgt := 0) C.1 C.2.1 dX3_takeWord_36 (by decide) ?_
          exact ih _ _ _ _ _ _ _ _ _ hs hI (lv_sub hl [0] rfl) kk0
  obtain ⟨I_L, hL, hs⟩ := bd_e hs
  refine KL_0 FU _ _ _ _ _ _ _ _ _ hL hI (lv_sub hl [0] rfl) (fun z0 H locs ls eo hI hl => ?_)
  subst eo
  refine lv_aload_n C.1 C.2.1 dX3_takeWord_39 rfl (lv_at hl 0 rfl) ?_
  refine lv_bipush (v := -3) C.1 C.2.1 dX3_takeWord_40 (by decide) ?_
  refine cp_X3_84 C hI dX3_takeWord_42 (fun H locs hI => ?_)
  have hs := gv_be hs
  refine lv_sipush (v := 256) C.1 C.2.1 dX3_takeWord_45 (by decide) ?_
  refine lv_istore_n (lv' := [(1, .int (256 : Int32)), (0, .ref (q 4))]) C.1 C.2.1 dX3_takeWord_48 rfl hl (by decide) rfl (fun ls hl => ?_)
  have KL_49 : ∀ (n : Nat) (x1 : Int32) (I : Nat → Int32) (J : Nat → Int64) (A : Nat → Nat → Int32) (B : Nat → Nat → Int64) (o : (Nat → Int32)) (Q : State → Prop) (H : Heap) (locs : List Loc) (ls : Array Slot), lX3_takeWord_49 n x1 I J A B = some o → CI D cy s P0 s.heap H locs q z tl (xx.1, xx.2.1, q 6) I J A B → lv_has ls 2 [(0, .ref (q 4)), (1, .int x1)] → (∀ (I_0 : Nat → Int32) (H : Heap) (locs : List Loc) (ls : Array Slot), o = I_0 → CI D cy s P0 s.heap H locs q z tl (xx.1, xx.2.1, q 6) I_0 J A B → lv_has ls 2 [] → W p l e (rmL 5) s m args below meth c H locs 0 0 Q (F0 m 88 ls [])) → W p l e (rmL 5) s m args below meth c H locs 0 0 Q (F0 m 49 ls []) := by
    intro n; induction n with
    | zero => intro x1 I J A B o Q H locs ls hs; rw [lX3_takeWord_49] at hs; cases hs
    | succ n ih =>
      intro x1 I J A B o Q H locs ls hs hI hl kk0
      rw [lX3_takeWord_49] at hs
      refine lv_iload_n C.1 C.2.1 dX3_takeWord_49 rfl (lv_at hl 1 rfl) ?_
      refine lv_sipush (v := 277) C.1 C.2.1 dX3_takeWord_50 (by decide) ?_
      refine lv_icmp_ge (tgt := 88) C.1 C.2.1 dX3_takeWord_53 (by decide) (fun cn => ?_) (fun cn => ?_)
      · have hs := if_t cn hs
        have eo := (Option.some.inj hs).symm
        exact kk0 _ _ _ _ eo hI (lv_sub hl [] rfl)
      · have hs := if_f cn hs
        refine lv_aload_n C.1 C.2.1 dX3_takeWord_56 rfl (lv_at hl 0 rfl) ?_
        refine cg_X3_84 C hI dX3_takeWord_57 ?_
        refine lv_bipush (v := -3) C.1 C.2.1 dX3_takeWord_60 (by decide) ?_
        refine lv_icmp_ne (tgt := 88) C.1 C.2.1 dX3_takeWord_62 (by decide) (fun cn => ?_) (fun cn => ?_)
        · have hs := if_f cn hs
          have eo := (Option.some.inj hs).symm
          exact kk0 _ _ _ _ eo hI (lv_sub hl [] rfl)
        · have hs := if_t cn hs
          refine lv_aload_n C.1 C.2.1 dX3_takeWord_65 rfl (lv_at hl 0 rfl) ?_
          refine lv_iload_n C.1 C.2.1 dX3_takeWord_66 rfl (lv_at hl 1 rfl) ?_
          refine lv_sipush (v := 256) C.1 C.2.1 dX3_takeWord_67 (by decide) ?_
          refine lv_isub C.1 C.2.1 dX3_takeWord_70 ?_
          obtain ⟨r_71, hc, hs⟩ := bd_e hs
          refine C_call C hI (kX3_isWord l D cy P0 q z tl xx _ _ _ _ _ _ hc) (rv_X3 hI) ml_X3_83 im_X3_isWord se_X3_isWord ini_X3 co_X3_isWord hyX3_isWord rfl ⟨by decide, by decide⟩ hl.1 rfl (Nat.le_of_ble_eq_true rfl) dX3_takeWord_71 (fun H locs hI => ?_)
          refine lv_if_eq (tgt := 82) C.1 C.2.1 dX3_takeWord_74 (by decide) (fun cn => ?_) (fun cn => ?_)
          · have hs := if_t cn hs
            obtain ⟨x1_82, ex1_82⟩ : ∃ y : Int32, y = (x1 + 1) := ⟨_, rfl⟩
            have hs := gv_at ex1_82 hs
            refine lv_iinc (v := x1_82) (lv' := [(1, .int x1_82), (0, .ref (q 4))]) C.1 C.2.1 dX3_takeWord_82 hl (k := 1) rfl (by rw [ex1_82]; rfl) (by decide) rfl (fun ls hl => ?_)
            refine lv_goto (tgt := 49) C.1 C.2.1 dX3_takeWord_85 (by decide) ?_
            exact ih _ _ _ _ _ _ _ _ _ _ hs hI (lv_sub hl [1, 0] rfl) kk0
          · have hs := if_f cn hs
            refine lv_aload_n C.1 C.2.1 dX3_takeWord_77 rfl (lv_at hl 0 rfl) ?_
            refine lv_iload_n C.1 C.2.1 dX3_takeWord_78 rfl (lv_at hl 1 rfl) ?_
            refine cp_X3_84 C hI dX3_takeWord_79 (fun H locs hI => ?_)
            have hs := gv_be hs
            obtain ⟨x1_82, ex1_82⟩ : ∃ y : Int32, y = (x1 + 1) := ⟨_, rfl⟩
            have hs := gv_at ex1_82 hs
            refine lv_iinc (v := x1_82) (lv' := [(1, .int x1_82), (0, .ref (q 4))]) C.1 C.2.1 dX3_takeWord_82 hl (k := 1) rfl (by rw [ex1_82]; rfl) (by decide) rfl (fun ls hl => ?_)
            refine lv_goto (tgt := 49) C.1 C.2.1 dX3_takeWord_85 (by decide) ?_
            exact ih _ _ _ _ _ _ _ _ _ _ hs hI (lv_sub hl [1, 0] rfl) kk0
  obtain ⟨I_L, hL, hs⟩ := bd_e hs
  refine KL_49 FU _ _ _ _ _ _ _ _ _ _ hL hI (lv_sub hl [1, 0] rfl) (fun z0 H locs ls eo hI hl => ?_)
  subst eo
  obtain rfl := Option.some.inj hs
  exact C_vret C hI dX3_takeWord_88

def lX7_saw_38 : Nat → Int32 → Int32 → (Nat → Int32) → (Nat → Int64) → (Nat → Nat → Int32) → (Nat → Nat → Int64) → Option ((Int32 × (Nat → Int32) × (Nat → Int64) × (Nat → Nat → Int32) × (Nat → Nat → Int64)) ⊕ ((Nat → Int32) × (Nat → Int64) × (Nat → Nat → Int32) × (Nat → Nat → Int64)))
  | 0, _, _, _, _, _, _ => none
  | n + 1, x1, x2, I, J, A, B =>
    if (I 35) ≤ x2 then
    (some (.inr (I, J, A, B)))
    else
    (sX5_cell 1 x2 (1 : Int32) I J A B).bind fun r_61 =>
    (sX7_isJoint r_61).bind fun r_66 =>
    if r_66 = 0 then
    (gv (x2 + 1) fun x2_141 =>
    lX7_saw_38 n x1 x2_141 I J A B)
    else
    (sX5_cell 1 x2 (2 : Int32) I J A B).bind fun r_99 =>
    gv (if r_99 = 0 then (0 : Int32) else (1 : Int32)) fun v_110 =>
    ck (inB v_110 9) <|
    ck (inB r_61 48) <|
    gv (va_up A 51 (upd (A 51) (ix r_61) (A 15 (ix v_110)))) fun A =>
    (sX1_fallsAnew (r_61 / (8 : Int32)) (-1431655766 : Int32) I J A B).bind fun (r_122, I, J, A, B) =>
    if (r_122 &&& (x1 ^^^ (-1 : Int32))) = 0 then
    (gv (x2 + 1) fun x2_141 =>
    lX7_saw_38 n r_122 x2_141 I J A B)
    else
    some (.inl (x2, I, J, A, B))
def sX7_saw (I : Nat → Int32) (J : Nat → Int64) (A : Nat → Nat → Int32) (B : Nat → Nat → Int64) : Option ((Int32) × (Nat → Int32) × (Nat → Int64) × (Nat → Nat → Int32) × (Nat → Nat → Int64)) :=
(sX1_ready  I J A B).bind fun (I, A) =>
gv (va_up A 51 (fillA 48 (A 15 (ix (0 : Int32))) (A 51))) fun A =>
(sX1_fallsOfAll (-1431655766 : Int32) I J A B).bind fun (r_32, I, J, A, B) =>
(lX7_saw_38 FU r_32 (0 : Int32) I J A B).bind fun o_38 => match o_38 with
| .inl (x2_38, I, J, A, B) =>
some (x2_38, I, J, A, B)
| .inr (I, J, A, B) =>
some ((-1 : Int32), I, J, A, B)
set_option maxRecDepth 100000 in
set_option maxHeartbeats 8000000 in
theorem kX7_saw (l : Launch) (D : va_G) (cy : Nat → ClassId) (P0 : Nat → Prop) (q z : Nat → Nat) (tl : va_W) (xx : (Nat → Option Nat) × (Nat → Option Nat) × Nat) (I : Nat → Int32) (J : Nat → Int64) (A : Nat → Nat → Int32) (B : Nat → Nat → Int64) (r : Int32) (I2 : Nat → Int32) (J2 : Nat → Int64) (A2 : Nat → Nat → Int32) (B2 : Nat → Nat → Int64) (hs : sX7_saw I J A B = some (r, I2, J2, A2, B2)) : McC l yX7_saw cX7_saw 5 (some .int) 5 [.ref (q 99)] D cy P0 q z tl xx I J A B (some (.int r)) xx I2 J2 A2 B2 := by
  refine C_start rfl (Nat.le_of_ble_eq_true rfl) ?_
  intro p e s m args below meth c H locs C hI ls hl
  have hl : lv_has ls 5 [(0, .ref (q 99))] := hl
  rw [sX7_saw] at hs
  refine lv_aload_n C.1 C.2.1 dX7_saw_0 rfl (lv_at hl 0 rfl) ?_
  refine cg_X7_2 C hI dX7_saw_1 ?_
  obtain ⟨⟨I, A⟩, hc, hs⟩ := bd_e hs
  refine C_call C hI (kX1_ready l D cy P0 q z tl xx _ _ _ _ _ _ hc) (rv_X1 hI) ml_X7_139 im_X1_ready se_X1_ready ini_X1 co_X1_ready hyX1_ready rfl ⟨by decide, by decide⟩ hl.1 rfl (Nat.le_of_ble_eq_true rfl) dX7_saw_4 (fun H locs hI => ?_)
  refine lv_aload_n C.1 C.2.1 dX7_saw_7 rfl (lv_at hl 0 rfl) ?_
  refine cg_X7_2 C hI dX7_saw_8 ?_
  refine cg_X7_51 C hI dX7_saw_11 ?_
  refine lv_aload_n C.1 C.2.1 dX7_saw_14 rfl (lv_at hl 0 rfl) ?_
  refine cg_X7_0 C hI dX7_saw_15 ?_
  refine cg_X7_15 C hI dX7_saw_18 ?_
  refine lv_iconst (v := 0) C.1 C.2.1 dX7_saw_21 (by decide) ?_
  refine ca_15 C hI (by decide) dX7_saw_22 ?_
  refine c_fill_51 C hI ml_X7_210 (by decide) hl.1 (Nat.le_of_ble_eq_true rfl) dX7_saw_23 (fun H locs hI => ?_)
  have hs := gv_be hs
  refine lv_aload_n C.1 C.2.1 dX7_saw_26 rfl (lv_at hl 0 rfl) ?_
  refine cg_X7_2 C hI dX7_saw_27 ?_
  refine lv_ldc C.1 C.2.1 C.2.2.2.1 (C.2.2.2.2.1 _ kc_X7_216) dX7_saw_30 ?_
  obtain ⟨⟨r_32, I, J, A, B⟩, hc, hs⟩ := bd_e hs
  refine C_call C hI (kX1_fallsOfAll l D cy P0 q z tl xx _ _ _ _ _ _ _ _ _ _ hc) (rv_X1 hI) ml_X7_217 im_X1_fallsOfAll se_X1_fallsOfAll ini_X1 co_X1_fallsOfAll hyX1_fallsOfAll rfl ⟨by decide, by decide⟩ hl.1 rfl (Nat.le_of_ble_eq_true rfl) dX7_saw_32 (fun H locs hI => ?_)
  refine lv_istore_n (lv' := [(1, .int r_32), (0, .ref (q 99))]) C.1 C.2.1 dX7_saw_35 rfl hl (by decide) rfl (fun ls hl => ?_)
  refine lv_iconst (v := 0) C.1 C.2.1 dX7_saw_36 (by decide) ?_
  refine lv_istore_n (lv' := [(2, .int (0 : Int32)), (1, .int r_32), (0, .ref (q 99))]) C.1 C.2.1 dX7_saw_37 rfl hl (by decide) rfl (fun ls hl => ?_)
  have KL_38 : ∀ (n : Nat) (x1 : Int32) (x2 : Int32) (I : Nat → Int32) (J : Nat → Int64) (A : Nat → Nat → Int32) (B : Nat → Nat → Int64) (o : (Int32 × (Nat → Int32) × (Nat → Int64) × (Nat → Nat → Int32) × (Nat → Nat → Int64)) ⊕ ((Nat → Int32) × (Nat → Int64) × (Nat → Nat → Int32) × (Nat → Nat → Int64))) (Q : State → Prop) (H : Heap) (locs : List Loc) (ls : Array Slot), lX7_saw_38 n x1 x2 I J A B = some o → CI D cy s P0 s.heap H locs q z tl xx I J A B → lv_has ls 5 [(0, .ref (q 99)), (1, .int x1), (2, .int x2)] → (∀ (o2_0 : Int32) (I_0 : Nat → Int32) (J_0 : Nat → Int64) (A_0 : Nat → Nat → Int32) (B_0 : Nat → Nat → Int64) (H : Heap) (locs : List Loc) (ls : Array Slot), o = (.inl (o2_0, I_0, J_0, A_0, B_0)) → CI D cy s P0 s.heap H locs q z tl xx I_0 J_0 A_0 B_0 → lv_has ls 5 [(2, .int o2_0)] → W p l e (rmL 5) s m args below meth c H locs 0 0 Q (F0 m 136 ls [])) → (∀ (I_1 : Nat → Int32) (J_1 : Nat → Int64) (A_1 : Nat → Nat → Int32) (B_1 : Nat → Nat → Int64) (H : Heap) (locs : List Loc) (ls : Array Slot), o = (.inr (I_1, J_1, A_1, B_1)) → CI D cy s P0 s.heap H locs q z tl xx I_1 J_1 A_1 B_1 → lv_has ls 5 [] → W p l e (rmL 5) s m args below meth c H locs 0 0 Q (F0 m 147 ls [])) → W p l e (rmL 5) s m args below meth c H locs 0 0 Q (F0 m 38 ls []) := by
    intro n; induction n with
    | zero => intro x1 x2 I J A B o Q H locs ls hs; rw [lX7_saw_38] at hs; cases hs
    | succ n ih =>
      intro x1 x2 I J A B o Q H locs ls hs hI hl kk0 kk1
      rw [lX7_saw_38] at hs
      refine lv_iload_n C.1 C.2.1 dX7_saw_38 rfl (lv_at hl 2 rfl) ?_
      refine lv_aload_n C.1 C.2.1 dX7_saw_39 rfl (lv_at hl 0 rfl) ?_
      refine cg_X7_0 C hI dX7_saw_40 ?_
      refine cg_X7_18 C hI dX7_saw_43 ?_
      refine cg_X7_35 C hI dX7_saw_46 ?_
      refine lv_icmp_ge (tgt := 147) C.1 C.2.1 dX7_saw_49 (by decide) (fun cn => ?_) (fun cn => ?_)
      · have hs := if_t cn hs
        have eo := (Option.some.inj hs).symm
        exact kk1 _ _ _ _ _ _ _ eo hI (lv_sub hl [] rfl)
      · have hs := if_f cn hs
        refine lv_aload_n C.1 C.2.1 dX7_saw_52 rfl (lv_at hl 0 rfl) ?_
        refine cg_X7_0 C hI dX7_saw_53 ?_
        refine cg_X7_18 C hI dX7_saw_56 ?_
        refine lv_iload_n C.1 C.2.1 dX7_saw_59 rfl (lv_at hl 2 rfl) ?_
        refine lv_iconst (v := 1) C.1 C.2.1 dX7_saw_60 (by decide) ?_
        obtain ⟨r_61, hc, hs⟩ := bd_e hs
        refine C_call C hI (kX5_cell l D cy P0 q z tl xx 1 (by decide) _ _ _ _ _ _ _ hc) (rv_X5 hI 1 (by decide)) ml_X7_203 im_X5_cell se_X5_cell ini_X5 co_X5_cell hyX5_cell rfl ⟨by decide, by decide⟩ hl.1 rfl (Nat.le_of_ble_eq_true rfl) dX7_saw_61 (fun H locs hI => ?_)
        refine lv_istore_n (lv' := [(3, .int r_61), (0, .ref (q 99)), (1, .int x1), (2, .int x2)]) C.1 C.2.1 dX7_saw_64 rfl hl (by decide) rfl (fun ls hl => ?_)
        refine lv_iload_n C.1 C.2.1 dX7_saw_65 rfl (lv_at hl 0 rfl) ?_
        obtain ⟨r_66, hc, hs⟩ := bd_e hs
        refine S_call (h := 5) C (kX7_isJoint l _ _ hc) ml_X7_66 st_X7_isJoint ini_X7 co_X7_isJoint hyX7_isJoint rfl ⟨by decide, by decide⟩ hl.1 rfl (Nat.le_of_ble_eq_true rfl) dX7_saw_66 ⟨Nat.le_refl 0, Nat.le_refl 0, Nat.le_refl _, Nat.le_refl _⟩ ?_
        refine lv_if_ne (tgt := 75) C.1 C.2.1 dX7_saw_69 (by decide) (fun cn => ?_) (fun cn => ?_)
        · have hs := if_f cn hs
          refine lv_aload_n C.1 C.2.1 dX7_saw_75 rfl (lv_at hl 1 rfl) ?_
          refine cg_X7_2 C hI dX7_saw_76 ?_
          refine cg_X7_51 C hI dX7_saw_79 ?_
          refine lv_iload_n C.1 C.2.1 dX7_saw_82 rfl (lv_at hl 0 rfl) ?_
          refine lv_aload_n C.1 C.2.1 dX7_saw_83 rfl (lv_at hl 1 rfl) ?_
          refine cg_X7_0 C hI dX7_saw_84 ?_
          refine cg_X7_15 C hI dX7_saw_87 ?_
          refine lv_aload_n C.1 C.2.1 dX7_saw_90 rfl (lv_at hl 1 rfl) ?_
          refine cg_X7_0 C hI dX7_saw_91 ?_
          refine cg_X7_18 C hI dX7_saw_94 ?_
          refine lv_iload_n C.1 C.2.1 dX7_saw_97 rfl (lv_at hl 3 rfl) ?_
          refine lv_iconst (v := 2) C.1 C.2.1 dX7_saw_98 (by decide) ?_
          obtain ⟨r_99, hc, hs⟩ := bd_e hs
          refine C_call C hI (kX5_cell l D cy P0 q z tl xx 1 (by decide) _ _ _ _ _ _ _ hc) (rv_X5 hI 1 (by decide)) ml_X7_203 im_X5_cell se_X5_cell ini_X5 co_X5_cell hyX5_cell rfl ⟨by decide, by decide⟩ hl.1 rfl (Nat.le_of_ble_eq_true rfl) dX7_saw_99 (fun H locs hI => ?_)
          obtain ⟨v_110, ev_110, hs⟩ := gv_ex hs
          have KP_110 : W p l e (rmL 5) s m args below meth c H locs 0 0 Q (F0 m 110 ls [.int v_110, .ref (q 15), .int r_61, .ref (q 51)]) := by
            obtain ⟨hk, hs⟩ := ck_e hs
            refine ca_15 C hI hk dX7_saw_110 ?_
            obtain ⟨hk, hs⟩ := ck_e hs
            refine cs_51 C hI hk dX7_saw_111 (fun H locs hI => ?_)
            have hs := gv_be hs
            refine lv_aload_n C.1 C.2.1 dX7_saw_112 rfl (lv_at hl 1 rfl) ?_
            refine cg_X7_2 C hI dX7_saw_113 ?_
            refine lv_iload_n C.1 C.2.1 dX7_saw_116 rfl (lv_at hl 0 rfl) ?_
            refine lv_bipush (v := 8) C.1 C.2.1 dX7_saw_117 (by decide) ?_
            refine lv_idiv C.1 C.2.1 dX7_saw_119 (by decide) ?_
            refine lv_ldc C.1 C.2.1 C.2.2.2.1 (C.2.2.2.2.1 _ kc_X7_216) dX7_saw_120 ?_
            obtain ⟨⟨r_122, I, J, A, B⟩, hc, hs⟩ := bd_e hs
            refine C_call C hI (kX1_fallsAnew l D cy P0 q z tl xx _ _ _ _ _ _ _ _ _ _ _ hc) (rv_X1 hI) ml_X7_220 im_X1_fallsAnew se_X1_fallsAnew ini_X1 co_X1_fallsAnew hyX1_fallsAnew rfl ⟨by decide, by decide⟩ hl.1 rfl (Nat.le_of_ble_eq_true rfl) dX7_saw_122 (fun H locs hI => ?_)
            refine lv_istore (lv' := [(4, .int r_122), (3, .int r_61), (0, .ref (q 99)), (1, .int x1), (2, .int x2)]) C.1 C.2.1 dX7_saw_125 hl (by decide) rfl (fun ls hl => ?_)
            refine lv_iload C.1 C.2.1 dX7_saw_127 (lv_at hl 0 rfl) ?_
            refine lv_iload_n C.1 C.2.1 dX7_saw_129 rfl (lv_at hl 3 rfl) ?_
            refine lv_iconst (v := -1) C.1 C.2.1 dX7_saw_130 (by decide) ?_
            refine lv_ixor C.1 C.2.1 dX7_saw_131 ?_
            refine lv_iand C.1 C.2.1 dX7_saw_132 ?_
            refine lv_if_eq (tgt := 138) C.1 C.2.1 dX7_saw_133 (by decide) (fun cn => ?_) (fun cn => ?_)
            · have hs := if_t cn hs
              refine lv_iload C.1 C.2.1 dX7_saw_138 (lv_at hl 0 rfl) ?_
              refine lv_istore_n (lv' := [(1, .int r_122), (4, .int r_122), (3, .int r_61), (0, .ref (q 99)), (2, .int x2)]) C.1 C.2.1 dX7_saw_140 rfl hl (by decide) rfl (fun ls hl => ?_)
              obtain ⟨x2_141, ex2_141⟩ : ∃ y : Int32, y = (x2 + 1) := ⟨_, rfl⟩
              have hs := gv_at ex2_141 hs
              refine lv_iinc (v := x2_141) (lv' := [(2, .int x2_141), (1, .int r_122), (4, .int r_122), (3, .int r_61), (0, .ref (q 99))]) C.1 C.2.1 dX7_saw_141 hl (k := 4) rfl (by rw [ex2_141]; rfl) (by decide) rfl (fun ls hl => ?_)
              refine lv_goto (tgt := 38) C.1 C.2.1 dX7_saw_144 (by decide) ?_
              exact ih _ _ _ _ _ _ _ _ _ _ _ hs hI (lv_sub hl [4, 1, 0] rfl) kk0 kk1
            · have hs := if_f cn hs
              have eo := (Option.some.inj hs).symm
              exact kk0 _ _ _ _ _ _ _ _ eo hI (lv_sub hl [4] rfl)
          refine lv_if_ne (tgt := 109) C.1 C.2.1 dX7_saw_102 (by decide) (fun cn => ?_) (fun cn => ?_)
          · have ev_110 := if_f' cn ev_110
            refine lv_iconst (v := 1) C.1 C.2.1 dX7_saw_109 (by decide) ?_
            subst ev_110
            exact KP_110
          · have ev_110 := if_t' cn ev_110
            refine lv_iconst (v := 0) C.1 C.2.1 dX7_saw_105 (by decide) ?_
            refine lv_goto (tgt := 110) C.1 C.2.1 dX7_saw_106 (by decide) ?_
            subst ev_110
            exact KP_110
        · have hs := if_t cn hs
          refine lv_goto (tgt := 141) C.1 C.2.1 dX7_saw_72 (by decide) ?_
          obtain ⟨x2_141, ex2_141⟩ : ∃ y : Int32, y = (x2 + 1) := ⟨_, rfl⟩
          have hs := gv_at ex2_141 hs
          refine lv_iinc (v := x2_141) (lv' := [(2, .int x2_141), (3, .int r_61), (0, .ref (q 99)), (1, .int x1)]) C.1 C.2.1 dX7_saw_141 hl (k := 3) rfl (by rw [ex2_141]; rfl) (by decide) rfl (fun ls hl => ?_)
          refine lv_goto (tgt := 38) C.1 C.2.1 dX7_saw_144 (by decide) ?_
          exact ih _ _ _ _ _ _ _ _ _ _ _ hs hI (lv_sub hl [2, 3, 0] rfl) kk0 kk1
  obtain ⟨o_38, hL, hs⟩ := bd_e hs
  refine KL_38 FU _ _ _ _ _ _ _ _ _ _ _ hL hI (lv_sub hl [2, 1, 0] rfl) (fun x2_38 I J A B H locs ls eo hI hl => ?_) (fun I J A B H locs ls eo hI hl => ?_)
  · rw [eo] at hs
    refine lv_iload_n C.1 C.2.1 dX7_saw_136 rfl (lv_at hl 0 rfl) ?_
    obtain ⟨rfl, rfl, rfl, rfl, rfl⟩ := so5 hs
    exact C_iret C hI dX7_saw_137
  · rw [eo] at hs
    refine lv_iconst (v := -1) C.1 C.2.1 dX7_saw_147 (by decide) ?_
    obtain ⟨rfl, rfl, rfl, rfl, rfl⟩ := so5 hs
    exact C_iret C hI dX7_saw_148

def sX7_odds (x1 : Int32) (I : Nat → Int32) (J : Nat → Int64) (A : Nat → Nat → Int32) (B : Nat → Nat → Int64) : Option ((Int32) × (Nat → Int32) × (Nat → Int64) × (Nat → Nat → Int32) × (Nat → Nat → Int64)) :=
(sX7_isWithin x1 (0 : Int32) (2 : Int32)).bind fun r_3 =>
if r_3 = 0 then
(some ((-1 : Int32), I, J, A, B))
else
(sX1_ready  I J A B).bind fun (I, A) =>
(sX4_currents  I J A B).bind fun r_26 =>
(sX1_fallsOfAll r_26 I J A B).bind fun (r_29, I, J, A, B) =>
gv (A 15 (ix (5 : Int32))) fun x3_42 =>
(sX4_yearOf r_29 x3_42 I J A B).bind fun r_49 =>
if x1 = (1 : Int32) then
((sX4_yearOf r_29 (100 : Int32) I J A B).bind fun r_66 =>
some ((r_66 - r_49), I, J, A, B))
else
if x1 = 0 then
(some (r_49, I, J, A, B))
else
(sX4_yearOf r_29 ((x3_42 * x3_42) / (100 : Int32)) I J A B).bind fun r_95 =>
some ((r_49 - r_95), I, J, A, B)
set_option maxRecDepth 100000 in
set_option maxHeartbeats 8000000 in
theorem kX7_odds (l : Launch) (D : va_G) (cy : Nat → ClassId) (P0 : Nat → Prop) (q z : Nat → Nat) (tl : va_W) (xx : (Nat → Option Nat) × (Nat → Option Nat) × Nat) (x1 : Int32) (I : Nat → Int32) (J : Nat → Int64) (A : Nat → Nat → Int32) (B : Nat → Nat → Int64) (r : Int32) (I2 : Nat → Int32) (J2 : Nat → Int64) (A2 : Nat → Nat → Int32) (B2 : Nat → Nat → Int64) (hs : sX7_odds x1 I J A B = some (r, I2, J2, A2, B2)) : McC l yX7_odds cX7_odds 5 (some .int) 5 [.ref (q 99), .int x1] D cy P0 q z tl xx I J A B (some (.int r)) xx I2 J2 A2 B2 := by
  refine C_start rfl (Nat.le_of_ble_eq_true rfl) ?_
  intro p e s m args below meth c H locs C hI ls hl
  have hl : lv_has ls 5 [(0, .ref (q 99)), (1, .int x1)] := hl
  rw [sX7_odds] at hs
  refine lv_iload_n C.1 C.2.1 dX7_odds_0 rfl (lv_at hl 1 rfl) ?_
  refine lv_iconst (v := 0) C.1 C.2.1 dX7_odds_1 (by decide) ?_
  refine lv_iconst (v := 2) C.1 C.2.1 dX7_odds_2 (by decide) ?_
  obtain ⟨r_3, hc, hs⟩ := bd_e hs
  refine S_call (h := 5) C (kX7_isWithin l _ _ _ _ hc) ml_X7_80 st_X7_isWithin ini_X7 co_X7_isWithin hyX7_isWithin rfl ⟨by decide, by decide⟩ hl.1 rfl (Nat.le_of_ble_eq_true rfl) dX7_odds_3 ⟨Nat.le_refl 0, Nat.le_refl 0, Nat.le_refl _, Nat.le_refl _⟩ ?_
  refine lv_if_ne (tgt := 11) C.1 C.2.1 dX7_odds_6 (by decide) (fun cn => ?_) (fun cn => ?_)
  · have hs := if_f cn hs
    refine lv_aload_n C.1 C.2.1 dX7_odds_11 rfl (lv_at hl 0 rfl) ?_
    refine cg_X7_2 C hI dX7_odds_12 ?_
    obtain ⟨⟨I, A⟩, hc, hs⟩ := bd_e hs
    refine C_call C hI (kX1_ready l D cy P0 q z tl xx _ _ _ _ _ _ hc) (rv_X1 hI) ml_X7_139 im_X1_ready se_X1_ready ini_X1 co_X1_ready hyX1_ready rfl ⟨by decide, by decide⟩ hl.1 rfl (Nat.le_of_ble_eq_true rfl) dX7_odds_15 (fun H locs hI => ?_)
    refine lv_aload_n C.1 C.2.1 dX7_odds_18 rfl (lv_at hl 0 rfl) ?_
    refine cg_X7_2 C hI dX7_odds_19 ?_
    refine lv_aload_n C.1 C.2.1 dX7_odds_22 rfl (lv_at hl 0 rfl) ?_
    refine cg_X7_0 C hI dX7_odds_23 ?_
    obtain ⟨r_26, hc, hs⟩ := bd_e hs
    refine C_call C hI (kX4_currents l D cy P0 q z tl xx _ _ _ _ _ hc) (rv_X4 hI) ml_X7_223 im_X4_currents se_X4_currents ini_X4 co_X4_currents hyX4_currents rfl ⟨by decide, by decide⟩ hl.1 rfl (Nat.le_of_ble_eq_true rfl) dX7_odds_26 (fun H locs hI => ?_)
    obtain ⟨⟨r_29, I, J, A, B⟩, hc, hs⟩ := bd_e hs
    refine C_call C hI (kX1_fallsOfAll l D cy P0 q z tl xx _ _ _ _ _ _ _ _ _ _ hc) (rv_X1 hI) ml_X7_217 im_X1_fallsOfAll se_X1_fallsOfAll ini_X1 co_X1_fallsOfAll hyX1_fallsOfAll rfl ⟨by decide, by decide⟩ hl.1 rfl (Nat.le_of_ble_eq_true rfl) dX7_odds_29 (fun H locs hI => ?_)
    refine lv_istore_n (lv' := [(2, .int r_29), (0, .ref (q 99)), (1, .int x1)]) C.1 C.2.1 dX7_odds_32 rfl hl (by decide) rfl (fun ls hl => ?_)
    refine lv_aload_n C.1 C.2.1 dX7_odds_33 rfl (lv_at hl 1 rfl) ?_
    refine cg_X7_0 C hI dX7_odds_34 ?_
    refine cg_X7_15 C hI dX7_odds_37 ?_
    refine lv_iconst (v := 5) C.1 C.2.1 dX7_odds_40 (by decide) ?_
    refine ca_15 C hI (by decide) dX7_odds_41 ?_
    refine lv_topi (fun x3_42 ex3_42 => ?_)
    have hs := gv_at ex3_42 hs
    refine lv_istore_n (lv' := [(3, .int x3_42), (2, .int r_29), (0, .ref (q 99)), (1, .int x1)]) C.1 C.2.1 dX7_odds_42 rfl hl (by decide) rfl (fun ls hl => ?_)
    refine lv_aload_n C.1 C.2.1 dX7_odds_43 rfl (lv_at hl 2 rfl) ?_
    refine cg_X7_0 C hI dX7_odds_44 ?_
    refine lv_iload_n C.1 C.2.1 dX7_odds_47 rfl (lv_at hl 1 rfl) ?_
    refine lv_iload_n C.1 C.2.1 dX7_odds_48 rfl (lv_at hl 0 rfl) ?_
    obtain ⟨r_49, hc, hs⟩ := bd_e hs
    refine C_call C hI (kX4_yearOf l D cy P0 q z tl xx _ _ _ _ _ _ _ hc) (rv_X4 hI) ml_X7_226 im_X4_yearOf se_X4_yearOf ini_X4 co_X4_yearOf hyX4_yearOf rfl ⟨by decide, by decide⟩ hl.1 rfl (Nat.le_of_ble_eq_true rfl) dX7_odds_49 (fun H locs hI => ?_)
    refine lv_istore (lv' := [(4, .int r_49), (3, .int x3_42), (2, .int r_29), (0, .ref (q 99)), (1, .int x1)]) C.1 C.2.1 dX7_odds_52 hl (by decide) rfl (fun ls hl => ?_)
    refine lv_iload_n C.1 C.2.1 dX7_odds_54 rfl (lv_at hl 4 rfl) ?_
    refine lv_iconst (v := 1) C.1 C.2.1 dX7_odds_55 (by decide) ?_
    refine lv_icmp_ne (tgt := 73) C.1 C.2.1 dX7_odds_56 (by decide) (fun cn => ?_) (fun cn => ?_)
    · have hs := if_f cn hs
      refine lv_iload_n C.1 C.2.1 dX7_odds_73 rfl (lv_at hl 4 rfl) ?_
      refine lv_if_ne (tgt := 82) C.1 C.2.1 dX7_odds_74 (by decide) (fun cn => ?_) (fun cn => ?_)
      · have hs := if_f cn hs
        refine lv_iload C.1 C.2.1 dX7_odds_82 (lv_at hl 0 rfl) ?_
        refine lv_aload_n C.1 C.2.1 dX7_odds_84 rfl (lv_at hl 3 rfl) ?_
        refine cg_X7_0 C hI dX7_odds_85 ?_
        refine lv_iload_n C.1 C.2.1 dX7_odds_88 rfl (lv_at hl 2 rfl) ?_
        refine lv_iload_n C.1 C.2.1 dX7_odds_89 rfl (lv_at hl 1 rfl) ?_
        refine lv_iload_n C.1 C.2.1 dX7_odds_90 rfl (lv_at hl 1 rfl) ?_
        refine lv_imul C.1 C.2.1 dX7_odds_91 ?_
        refine lv_bipush (v := 100) C.1 C.2.1 dX7_odds_92 (by decide) ?_
        refine lv_idiv C.1 C.2.1 dX7_odds_94 (by decide) ?_
        obtain ⟨r_95, hc, hs⟩ := bd_e hs
        refine C_call C hI (kX4_yearOf l D cy P0 q z tl xx _ _ _ _ _ _ _ hc) (rv_X4 hI) ml_X7_226 im_X4_yearOf se_X4_yearOf ini_X4 co_X4_yearOf hyX4_yearOf rfl ⟨by decide, by decide⟩ hl.1 rfl (Nat.le_of_ble_eq_true rfl) dX7_odds_95 (fun H locs hI => ?_)
        refine lv_isub C.1 C.2.1 dX7_odds_98 ?_
        obtain ⟨rfl, rfl, rfl, rfl, rfl⟩ := so5 hs
        exact C_iret C hI dX7_odds_99
      · have hs := if_t cn hs
        refine lv_iload C.1 C.2.1 dX7_odds_77 (lv_at hl 0 rfl) ?_
        refine lv_goto (tgt := 99) C.1 C.2.1 dX7_odds_79 (by decide) ?_
        obtain ⟨rfl, rfl, rfl, rfl, rfl⟩ := so5 hs
        exact C_iret C hI dX7_odds_99
    · have hs := if_t cn hs
      refine lv_aload_n C.1 C.2.1 dX7_odds_59 rfl (lv_at hl 3 rfl) ?_
      refine cg_X7_0 C hI dX7_odds_60 ?_
      refine lv_iload_n C.1 C.2.1 dX7_odds_63 rfl (lv_at hl 2 rfl) ?_
      refine lv_bipush (v := 100) C.1 C.2.1 dX7_odds_64 (by decide) ?_
      obtain ⟨r_66, hc, hs⟩ := bd_e hs
      refine C_call C hI (kX4_yearOf l D cy P0 q z tl xx _ _ _ _ _ _ _ hc) (rv_X4 hI) ml_X7_226 im_X4_yearOf se_X4_yearOf ini_X4 co_X4_yearOf hyX4_yearOf rfl ⟨by decide, by decide⟩ hl.1 rfl (Nat.le_of_ble_eq_true rfl) dX7_odds_66 (fun H locs hI => ?_)
      refine lv_iload C.1 C.2.1 dX7_odds_69 (lv_at hl 0 rfl) ?_
      refine lv_isub C.1 C.2.1 dX7_odds_71 ?_
      obtain ⟨rfl, rfl, rfl, rfl, rfl⟩ := so5 hs
      exact C_iret C hI dX7_odds_72
  · have hs := if_t cn hs
    refine lv_iconst (v := -1) C.1 C.2.1 dX7_odds_9 (by decide) ?_
    obtain ⟨rfl, rfl, rfl, rfl, rfl⟩ := so5 hs
    exact C_iret C hI dX7_odds_10

def lX3_advance_0 : Nat → (Nat → Int32) → (Nat → Int64) → (Nat → Nat → Int32) → (Nat → Nat → Int64) → Option ((Nat → Int32))
  | 0, _, _, _, _ => none
  | n + 1, I, J, A, B =>
    if (I 82) ≤ (I 83) then
    (some I)
    else
    ck (inB (I 83) 400) <|
    if (A 6 (ix (I 83))) = (32 : Int32) then
    (gv (upd I 83 ((I 83) + (1 : Int32))) fun I =>
    lX3_advance_0 n I J A B)
    else
    some I
def sX3_advance (I : Nat → Int32) (J : Nat → Int64) (A : Nat → Nat → Int32) (B : Nat → Nat → Int64) : Option ((Nat → Int32)) :=
(lX3_advance_0 FU I J A B).bind fun I =>
gv (upd I 80 (I 83)) fun I =>
if (I 83) < (I 82) then
(ck (inB (I 83) 400) <|
(sX3_isLetter (A 6 (ix (I 83)))).bind fun r_74 =>
if r_74 = 0 then
(ck (inB (I 83) 400) <|
(sX3_isDigit (A 6 (ix (I 83)))).bind fun r_96 =>
if r_96 = 0 then
(ck (inB (I 83) 400) <|
gv (upd I 84 (A 6 (ix (I 83)))) fun I =>
gv (upd I 83 ((I 83) + (1 : Int32))) fun I =>
some I)
else
(sX3_takeNumber  I J A B).bind fun I =>
some I)
else
(sX3_takeWord  I J A B).bind fun I =>
some I)
else
gv (upd I 84 (-1 : Int32)) fun I =>
some I
set_option maxRecDepth 100000 in
set_option maxHeartbeats 8000000 in
theorem kX3_advance (l : Launch) (D : va_G) (cy : Nat → ClassId) (P0 : Nat → Prop) (q z : Nat → Nat) (tl : va_W) (xx : (Nat → Option Nat) × (Nat → Option Nat) × Nat) (I : Nat → Int32) (J : Nat → Int64) (A : Nat → Nat → Int32) (B : Nat → Nat → Int64) (I2 : Nat → Int32) (hs : sX3_advance I J A B = some I2) : McC l yX3_advance cX3_advance 1 none 6 [.ref (q 4)] D cy P0 q z tl (xx.1, xx.2.1, q 6) I J A B none (xx.1, xx.2.1, q 6) I2 J A B := by
  refine C_start rfl (Nat.le_of_ble_eq_true rfl) ?_
  intro p e s m args below meth c H locs C hI ls hl
  have hl : lv_has ls 1 [(0, .ref (q 4))] := hl
  rw [sX3_advance] at hs
  have KL_0 : ∀ (n : Nat) (I : Nat → Int32) (J : Nat → Int64) (A : Nat → Nat → Int32) (B : Nat → Nat → Int64) (o : (Nat → Int32)) (Q : State → Prop) (H : Heap) (locs : List Loc) (ls : Array Slot), lX3_advance_0 n I J A B = some o → CI D cy s P0 s.heap H locs q z tl (xx.1, xx.2.1, q 6) I J A B → lv_has ls 1 [(0, .ref (q 4))] → (∀ (I_0 : Nat → Int32) (H : Heap) (locs : List Loc) (ls : Array Slot), o = I_0 → CI D cy s P0 s.heap H locs q z tl (xx.1, xx.2.1, q 6) I_0 J A B → lv_has ls 1 [(0, .ref (q 4))] → W p l e (rmL 6) s m args below meth c H locs 0 0 Q (F0 m 38 ls [])) → W p l e (rmL 6) s m args below meth c H locs 0 0 Q (F0 m 0 ls []) := by
    intro n; induction n with
    | zero => intro I J A B o Q H locs ls hs; rw [lX3_advance_0] at hs; cases hs
    | succ n ih =>
      intro I J A B o Q H locs ls hs hI hl kk0
      rw [lX3_advance_0] at hs
      refine lv_aload_n C.1 C.2.1 dX3_advance_0 rfl (lv_at hl 0 rfl) ?_
      refine cg_X3_83 C hI dX3_advance_1 ?_
      refine lv_aload_n C.1 C.2.1 dX3_advance_4 rfl (lv_at hl 0 rfl) ?_
      refine cg_X3_82 C hI dX3_advance_5 ?_
      refine lv_icmp_ge (tgt := 38) C.1 C.2.1 dX3_advance_8 (by decide) (fun cn => ?_) (fun cn => ?_)
      · have hs := if_t cn hs
        have eo := (Option.some.inj hs).symm
        exact kk0 _ _ _ _ eo hI (lv_sub hl [0] rfl)
      · have hs := if_f cn hs
        refine lv_aload_n C.1 C.2.1 dX3_advance_11 rfl (lv_at hl 0 rfl) ?_
        refine cg_X3_81 C hI dX3_advance_12 ?_
        refine lv_aload_n C.1 C.2.1 dX3_advance_15 rfl (lv_at hl 0 rfl) ?_
        refine cg_X3_83 C hI dX3_advance_16 ?_
        obtain ⟨hk, hs⟩ := ck_e hs
        refine ca_6 C hI hk dX3_advance_19 ?_
        refine lv_bipush (v := 32) C.1 C.2.1 dX3_advance_20 (by decide) ?_
        refine lv_icmp_ne (tgt := 38) C.1 C.2.1 dX3_advance_22 (by decide) (fun cn => ?_) (fun cn => ?_)
        · have hs := if_f cn hs
          have eo := (Option.some.inj hs).symm
          exact kk0 _ _ _ _ eo hI (lv_sub hl [0] rfl)
        · have hs := if_t cn hs
          refine lv_aload_n C.1 C.2.1 dX3_advance_25 rfl (lv_at hl 0 rfl) ?_
          refine lv_dup C.1 C.2.1 dX3_advance_26 rfl ?_
          refine cg_X3_83 C hI dX3_advance_27 ?_
          refine lv_iconst (v := 1) C.1 C.2.1 dX3_advance_30 (by decide) ?_
          refine lv_iadd C.1 C.2.1 dX3_advance_31 ?_
          refine cp_X3_83 C hI dX3_advance_32 (fun H locs hI => ?_)
          have hs := gv_be hs
          refine lv_goto (tgt := 0) C.1 C.2.1 dX3_advance_35 (by decide) ?_
          exact ih _ _ _ _ _ _ _ _ _ hs hI (lv_sub hl [0] rfl) kk0
  obtain ⟨I_L, hL, hs⟩ := bd_e hs
  refine KL_0 FU _ _ _ _ _ _ _ _ _ hL hI (lv_sub hl [0] rfl) (fun z0 H locs ls eo hI hl => ?_)
  subst eo
  refine lv_aload_n C.1 C.2.1 dX3_advance_38 rfl (lv_at hl 0 rfl) ?_
  refine lv_aload_n C.1 C.2.1 dX3_advance_39 rfl (lv_at hl 0 rfl) ?_
  refine cg_X3_83 C hI dX3_advance_40 ?_
  refine cp_X3_80 C hI dX3_advance_43 (fun H locs hI => ?_)
  have hs := gv_be hs
  refine lv_aload_n C.1 C.2.1 dX3_advance_46 rfl (lv_at hl 0 rfl) ?_
  refine cg_X3_83 C hI dX3_advance_47 ?_
  refine lv_aload_n C.1 C.2.1 dX3_advance_50 rfl (lv_at hl 0 rfl) ?_
  refine cg_X3_82 C hI dX3_advance_51 ?_
  refine lv_icmp_lt (tgt := 65) C.1 C.2.1 dX3_advance_54 (by decide) (fun cn => ?_) (fun cn => ?_)
  · have hs := if_t cn hs
    refine lv_aload_n C.1 C.2.1 dX3_advance_65 rfl (lv_at hl 0 rfl) ?_
    refine cg_X3_81 C hI dX3_advance_66 ?_
    refine lv_aload_n C.1 C.2.1 dX3_advance_69 rfl (lv_at hl 0 rfl) ?_
    refine cg_X3_83 C hI dX3_advance_70 ?_
    obtain ⟨hk, hs⟩ := ck_e hs
    refine ca_6 C hI hk dX3_advance_73 ?_
    obtain ⟨r_74, hc, hs⟩ := bd_e hs
    refine S_call (h := 6) C (kX3_isLetter l _ _ hc) ml_X3_70 st_X3_isLetter ini_X3 co_X3_isLetter hyX3_isLetter rfl ⟨by decide, by decide⟩ hl.1 rfl (Nat.le_of_ble_eq_true rfl) dX3_advance_74 ⟨Nat.le_refl 0, Nat.le_refl 0, Nat.le_refl _, Nat.le_refl _⟩ ?_
    refine lv_if_eq (tgt := 87) C.1 C.2.1 dX3_advance_77 (by decide) (fun cn => ?_) (fun cn => ?_)
    · have hs := if_t cn hs
      refine lv_aload_n C.1 C.2.1 dX3_advance_87 rfl (lv_at hl 0 rfl) ?_
      refine cg_X3_81 C hI dX3_advance_88 ?_
      refine lv_aload_n C.1 C.2.1 dX3_advance_91 rfl (lv_at hl 0 rfl) ?_
      refine cg_X3_83 C hI dX3_advance_92 ?_
      obtain ⟨hk, hs⟩ := ck_e hs
      refine ca_6 C hI hk dX3_advance_95 ?_
      obtain ⟨r_96, hc, hs⟩ := bd_e hs
      refine S_call (h := 6) C (kX3_isDigit l _ _ hc) ml_X3_77 st_X3_isDigit ini_X3 co_X3_isDigit hyX3_isDigit rfl ⟨by decide, by decide⟩ hl.1 rfl (Nat.le_of_ble_eq_true rfl) dX3_advance_96 ⟨Nat.le_refl 0, Nat.le_refl 0, Nat.le_refl _, Nat.le_refl _⟩ ?_
      refine lv_if_eq (tgt := 109) C.1 C.2.1 dX3_advance_99 (by decide) (fun cn => ?_) (fun cn => ?_)
      · have hs := if_t cn hs
        refine lv_aload_n C.1 C.2.1 dX3_advance_109 rfl (lv_at hl 0 rfl) ?_
        refine lv_aload_n C.1 C.2.1 dX3_advance_110 rfl (lv_at hl 0 rfl) ?_
        refine cg_X3_81 C hI dX3_advance_111 ?_
        refine lv_aload_n C.1 C.2.1 dX3_advance_114 rfl (lv_at hl 0 rfl) ?_
        refine cg_X3_83 C hI dX3_advance_115 ?_
        obtain ⟨hk, hs⟩ := ck_e hs
        refine ca_6 C hI hk dX3_advance_118 ?_
        refine cp_X3_84 C hI dX3_advance_119 (fun H locs hI => ?_)
        have hs := gv_be hs
        refine lv_aload_n C.1 C.2.1 dX3_advance_122 rfl (lv_at hl 0 rfl) ?_
        refine lv_dup C.1 C.2.1 dX3_advance_123 rfl ?_
        refine cg_X3_83 C hI dX3_advance_124 ?_
        refine lv_iconst (v := 1) C.1 C.2.1 dX3_advance_127 (by decide) ?_
        refine lv_iadd C.1 C.2.1 dX3_advance_128 ?_
        refine cp_X3_83 C hI dX3_advance_129 (fun H locs hI => ?_)
        have hs := gv_be hs
        obtain rfl := Option.some.inj hs
        exact C_vret C hI dX3_advance_132
      · have hs := if_f cn hs
        refine lv_aload_n C.1 C.2.1 dX3_advance_102 rfl (lv_at hl 0 rfl) ?_
        obtain ⟨I, hc, hs⟩ := bd_e hs
        refine C_call C hI (kX3_takeNumber l D cy P0 q z tl xx _ _ _ _ _ hc) (rv_X3 hI) ml_X3_80 im_X3_takeNumber se_X3_takeNumber ini_X3 co_X3_takeNumber hyX3_takeNumber rfl ⟨by decide, by decide⟩ hl.1 rfl (Nat.le_of_ble_eq_true rfl) dX3_advance_103 (fun H locs hI => ?_)
        refine lv_goto (tgt := 132) C.1 C.2.1 dX3_advance_106 (by decide) ?_
        obtain rfl := Option.some.inj hs
        exact C_vret C hI dX3_advance_132
    · have hs := if_f cn hs
      refine lv_aload_n C.1 C.2.1 dX3_advance_80 rfl (lv_at hl 0 rfl) ?_
      obtain ⟨I, hc, hs⟩ := bd_e hs
      refine C_call C hI (kX3_takeWord l D cy P0 q z tl xx _ _ _ _ _ hc) (rv_X3 hI) ml_X3_74 im_X3_takeWord se_X3_takeWord ini_X3 co_X3_takeWord hyX3_takeWord rfl ⟨by decide, by decide⟩ hl.1 rfl (Nat.le_of_ble_eq_true rfl) dX3_advance_81 (fun H locs hI => ?_)
      refine lv_goto (tgt := 132) C.1 C.2.1 dX3_advance_84 (by decide) ?_
      obtain rfl := Option.some.inj hs
      exact C_vret C hI dX3_advance_132
  · have hs := if_f cn hs
    refine lv_aload_n C.1 C.2.1 dX3_advance_57 rfl (lv_at hl 0 rfl) ?_
    refine lv_iconst (v := -1) C.1 C.2.1 dX3_advance_58 (by decide) ?_
    refine cp_X3_84 C hI dX3_advance_59 (fun H locs hI => ?_)
    have hs := gv_be hs
    refine lv_goto (tgt := 132) C.1 C.2.1 dX3_advance_62 (by decide) ?_
    obtain rfl := Option.some.inj hs
    exact C_vret C hI dX3_advance_132

def sX7_best (I : Nat → Int32) (J : Nat → Int64) (A : Nat → Nat → Int32) (B : Nat → Nat → Int64) : Option ((Int64) × (Nat → Int32) × (Nat → Int64) × (Nat → Nat → Int32) × (Nat → Nat → Int64)) :=
(sX2_canBe  I J A B).bind fun r_4 =>
if r_4 = 0 then
(some ((-1 : Int64), I, J, A, B))
else
(sX2_weighSets  I J A B).bind fun (I, J, A, B) =>
(sX2_weighRows  I J A B).bind fun B =>
(sX2_keepRow  I J A B).bind fun (I, A) =>
some ((B 76 (ix (0 : Int32))), I, J, A, B)
set_option maxRecDepth 100000 in
set_option maxHeartbeats 8000000 in
theorem kX7_best (l : Launch) (D : va_G) (cy : Nat → ClassId) (P0 : Nat → Prop) (q z : Nat → Nat) (tl : va_W) (xx : (Nat → Option Nat) × (Nat → Option Nat) × Nat) (I : Nat → Int32) (J : Nat → Int64) (A : Nat → Nat → Int32) (B : Nat → Nat → Int64) (r : Int64) (I2 : Nat → Int32) (J2 : Nat → Int64) (A2 : Nat → Nat → Int32) (B2 : Nat → Nat → Int64) (hs : sX7_best I J A B = some (r, I2, J2, A2, B2)) : McC l yX7_best cX7_best 1 (some .long) 6 [.ref (q 99)] D cy P0 q z tl xx I J A B (some (.long r)) xx I2 J2 A2 B2 := by
  refine C_start rfl (Nat.le_of_ble_eq_true rfl) ?_
  intro p e s m args below meth c H locs C hI ls hl
  have hl : lv_has ls 1 [(0, .ref (q 99))] := hl
  rw [sX7_best] at hs
  refine lv_aload_n C.1 C.2.1 dX7_best_0 rfl (lv_at hl 0 rfl) ?_
  refine cg_X7_3 C hI dX7_best_1 ?_
  obtain ⟨r_4, hc, hs⟩ := bd_e hs
  refine C_call C hI (kX2_canBe l D cy P0 q z tl xx _ _ _ _ _ hc) (rv_X2 hI) ml_X7_236 im_X2_canBe se_X2_canBe ini_X2 co_X2_canBe hyX2_canBe rfl ⟨by decide, by decide⟩ hl.1 rfl (Nat.le_of_ble_eq_true rfl) dX7_best_4 (fun H locs hI => ?_)
  refine lv_if_ne (tgt := 14) C.1 C.2.1 dX7_best_7 (by decide) (fun cn => ?_) (fun cn => ?_)
  · have hs := if_f cn hs
    refine lv_aload_n C.1 C.2.1 dX7_best_14 rfl (lv_at hl 0 rfl) ?_
    refine cg_X7_3 C hI dX7_best_15 ?_
    obtain ⟨⟨I, J, A, B⟩, hc, hs⟩ := bd_e hs
    refine C_call C hI (kX2_weighSets l D cy P0 q z tl xx _ _ _ _ _ _ _ _ hc) (rv_X2 hI) ml_X7_241 im_X2_weighSets se_X2_weighSets ini_X2 co_X2_weighSets hyX2_weighSets rfl ⟨by decide, by decide⟩ hl.1 rfl (Nat.le_of_ble_eq_true rfl) dX7_best_18 (fun H locs hI => ?_)
    refine lv_aload_n C.1 C.2.1 dX7_best_21 rfl (lv_at hl 0 rfl) ?_
    refine cg_X7_3 C hI dX7_best_22 ?_
    obtain ⟨B, hc, hs⟩ := bd_e hs
    refine C_call C hI (kX2_weighRows l D cy P0 q z tl xx _ _ _ _ _ hc) (rv_X2 hI) ml_X7_244 im_X2_weighRows se_X2_weighRows ini_X2 co_X2_weighRows hyX2_weighRows rfl ⟨by decide, by decide⟩ hl.1 rfl (Nat.le_of_ble_eq_true rfl) dX7_best_25 (fun H locs hI => ?_)
    refine lv_aload_n C.1 C.2.1 dX7_best_28 rfl (lv_at hl 0 rfl) ?_
    refine cg_X7_3 C hI dX7_best_29 ?_
    obtain ⟨⟨I, A⟩, hc, hs⟩ := bd_e hs
    refine C_call C hI (kX2_keepRow l D cy P0 q z tl xx _ _ _ _ _ _ hc) (rv_X2 hI) ml_X7_247 im_X2_keepRow se_X2_keepRow ini_X2 co_X2_keepRow hyX2_keepRow rfl ⟨by decide, by decide⟩ hl.1 rfl (Nat.le_of_ble_eq_true rfl) dX7_best_32 (fun H locs hI => ?_)
    refine lv_aload_n C.1 C.2.1 dX7_best_35 rfl (lv_at hl 0 rfl) ?_
    refine cg_X7_3 C hI dX7_best_36 ?_
    refine cg_X7_76 C hI dX7_best_39 ?_
    refine lv_iconst (v := 0) C.1 C.2.1 dX7_best_42 (by decide) ?_
    refine ca_76 C hI (by decide) dX7_best_43 ?_
    obtain ⟨rfl, rfl, rfl, rfl, rfl⟩ := so5 hs
    exact C_lret C hI dX7_best_44
  · have hs := if_t cn hs
    refine lv_ldc2 C.1 C.2.1 C.2.2.2.1 (C.2.2.2.2.1 _ kl_X7_239) dX7_best_10 ?_
    obtain ⟨rfl, rfl, rfl, rfl, rfl⟩ := so5 hs
    exact C_lret C hI dX7_best_13

def sX7_low (I : Nat → Int32) (J : Nat → Int64) (A : Nat → Nat → Int32) (B : Nat → Nat → Int64) : Option ((Int64) × (Nat → Int32) × (Nat → Int64) × (Nat → Nat → Int32) × (Nat → Nat → Int64)) :=
(sX2_canBe  I J A B).bind fun r_4 =>
if r_4 = 0 then
(some ((-1 : Int64), I, J, A, B))
else
(sX2_weighSets  I J A B).bind fun (I, J, A, B) =>
(sX2_leastSum  I J A B).bind fun r_25 =>
some (r_25, I, J, A, B)
set_option maxRecDepth 100000 in
set_option maxHeartbeats 8000000 in
theorem kX7_low (l : Launch) (D : va_G) (cy : Nat → ClassId) (P0 : Nat → Prop) (q z : Nat → Nat) (tl : va_W) (xx : (Nat → Option Nat) × (Nat → Option Nat) × Nat) (I : Nat → Int32) (J : Nat → Int64) (A : Nat → Nat → Int32) (B : Nat → Nat → Int64) (r : Int64) (I2 : Nat → Int32) (J2 : Nat → Int64) (A2 : Nat → Nat → Int32) (B2 : Nat → Nat → Int64) (hs : sX7_low I J A B = some (r, I2, J2, A2, B2)) : McC l yX7_low cX7_low 1 (some .long) 6 [.ref (q 99)] D cy P0 q z tl xx I J A B (some (.long r)) xx I2 J2 A2 B2 := by
  refine C_start rfl (Nat.le_of_ble_eq_true rfl) ?_
  intro p e s m args below meth c H locs C hI ls hl
  have hl : lv_has ls 1 [(0, .ref (q 99))] := hl
  rw [sX7_low] at hs
  refine lv_aload_n C.1 C.2.1 dX7_low_0 rfl (lv_at hl 0 rfl) ?_
  refine cg_X7_3 C hI dX7_low_1 ?_
  obtain ⟨r_4, hc, hs⟩ := bd_e hs
  refine C_call C hI (kX2_canBe l D cy P0 q z tl xx _ _ _ _ _ hc) (rv_X2 hI) ml_X7_236 im_X2_canBe se_X2_canBe ini_X2 co_X2_canBe hyX2_canBe rfl ⟨by decide, by decide⟩ hl.1 rfl (Nat.le_of_ble_eq_true rfl) dX7_low_4 (fun H locs hI => ?_)
  refine lv_if_ne (tgt := 14) C.1 C.2.1 dX7_low_7 (by decide) (fun cn => ?_) (fun cn => ?_)
  · have hs := if_f cn hs
    refine lv_aload_n C.1 C.2.1 dX7_low_14 rfl (lv_at hl 0 rfl) ?_
    refine cg_X7_3 C hI dX7_low_15 ?_
    obtain ⟨⟨I, J, A, B⟩, hc, hs⟩ := bd_e hs
    refine C_call C hI (kX2_weighSets l D cy P0 q z tl xx _ _ _ _ _ _ _ _ hc) (rv_X2 hI) ml_X7_241 im_X2_weighSets se_X2_weighSets ini_X2 co_X2_weighSets hyX2_weighSets rfl ⟨by decide, by decide⟩ hl.1 rfl (Nat.le_of_ble_eq_true rfl) dX7_low_18 (fun H locs hI => ?_)
    refine lv_aload_n C.1 C.2.1 dX7_low_21 rfl (lv_at hl 0 rfl) ?_
    refine cg_X7_3 C hI dX7_low_22 ?_
    obtain ⟨r_25, hc, hs⟩ := bd_e hs
    refine C_call C hI (kX2_leastSum l D cy P0 q z tl xx _ _ _ _ _ hc) (rv_X2 hI) ml_X7_260 im_X2_leastSum se_X2_leastSum ini_X2 co_X2_leastSum hyX2_leastSum rfl ⟨by decide, by decide⟩ hl.1 rfl (Nat.le_of_ble_eq_true rfl) dX7_low_25 (fun H locs hI => ?_)
    obtain ⟨rfl, rfl, rfl, rfl, rfl⟩ := so5 hs
    exact C_lret C hI dX7_low_28
  · have hs := if_t cn hs
    refine lv_ldc2 C.1 C.2.1 C.2.2.2.1 (C.2.2.2.2.1 _ kl_X7_239) dX7_low_10 ?_
    obtain ⟨rfl, rfl, rfl, rfl, rfl⟩ := so5 hs
    exact C_lret C hI dX7_low_13

def sX3_readLeaf (I : Nat → Int32) (J : Nat → Int64) (A : Nat → Nat → Int32) (B : Nat → Nat → Int64) : Option ((Int32) × (Nat → Int32) × (Nat → Nat → Int32)) :=
if (I 86) < (50 : Int32) then
(gv (upd I 86 ((I 86) + (1 : Int32))) fun I =>
if (I 84) = (-2 : Int32) then
((sX3_write (0 : Int32) (I 85) I J A B).bind fun (I, A) =>
(sX3_advance  I J A B).bind fun I =>
some ((1 : Int32), I, A))
else
(sX3_write (1 : Int32) (I 84) I J A B).bind fun (I, A) =>
(sX3_advance  I J A B).bind fun I =>
some ((1 : Int32), I, A))
else
some ((0 : Int32), I, A)
set_option maxRecDepth 100000 in
set_option maxHeartbeats 8000000 in
theorem kX3_readLeaf (l : Launch) (D : va_G) (cy : Nat → ClassId) (P0 : Nat → Prop) (q z : Nat → Nat) (tl : va_W) (xx : (Nat → Option Nat) × (Nat → Option Nat) × Nat) (I : Nat → Int32) (J : Nat → Int64) (A : Nat → Nat → Int32) (B : Nat → Nat → Int64) (r : Int32) (I2 : Nat → Int32) (A2 : Nat → Nat → Int32) (hs : sX3_readLeaf I J A B = some (r, I2, A2)) : McC l yX3_readLeaf cX3_readLeaf 1 (some .boolean) 7 [.ref (q 4)] D cy P0 q z tl (xx.1, xx.2.1, q 6) I J A B (some (.int r)) (xx.1, xx.2.1, q 6) I2 J A2 B := by
  refine C_start rfl (Nat.le_of_ble_eq_true rfl) ?_
  intro p e s m args below meth c H locs C hI ls hl
  have hl : lv_has ls 1 [(0, .ref (q 4))] := hl
  rw [sX3_readLeaf] at hs
  refine lv_aload_n C.1 C.2.1 dX3_readLeaf_0 rfl (lv_at hl 0 rfl) ?_
  refine cg_X3_86 C hI dX3_readLeaf_1 ?_
  refine lv_bipush (v := 50) C.1 C.2.1 dX3_readLeaf_4 (by decide) ?_
  refine lv_icmp_lt (tgt := 11) C.1 C.2.1 dX3_readLeaf_6 (by decide) (fun cn => ?_) (fun cn => ?_)
  · have hs := if_t cn hs
    refine lv_aload_n C.1 C.2.1 dX3_readLeaf_11 rfl (lv_at hl 0 rfl) ?_
    refine lv_dup C.1 C.2.1 dX3_readLeaf_12 rfl ?_
    refine cg_X3_86 C hI dX3_readLeaf_13 ?_
    refine lv_iconst (v := 1) C.1 C.2.1 dX3_readLeaf_16 (by decide) ?_
    refine lv_iadd C.1 C.2.1 dX3_readLeaf_17 ?_
    refine cp_X3_86 C hI dX3_readLeaf_18 (fun H locs hI => ?_)
    have hs := gv_be hs
    refine lv_aload_n C.1 C.2.1 dX3_readLeaf_21 rfl (lv_at hl 0 rfl) ?_
    refine cg_X3_84 C hI dX3_readLeaf_22 ?_
    refine lv_bipush (v := -2) C.1 C.2.1 dX3_readLeaf_25 (by decide) ?_
    refine lv_icmp_ne (tgt := 42) C.1 C.2.1 dX3_readLeaf_27 (by decide) (fun cn => ?_) (fun cn => ?_)
    · have hs := if_f cn hs
      refine lv_aload_n C.1 C.2.1 dX3_readLeaf_42 rfl (lv_at hl 0 rfl) ?_
      refine lv_iconst (v := 1) C.1 C.2.1 dX3_readLeaf_43 (by decide) ?_
      refine lv_aload_n C.1 C.2.1 dX3_readLeaf_44 rfl (lv_at hl 0 rfl) ?_
      refine cg_X3_84 C hI dX3_readLeaf_45 ?_
      obtain ⟨⟨I, A⟩, hc, hs⟩ := bd_e hs
      refine C_call C hI (kX3_write l D cy P0 q z tl xx _ _ _ _ _ _ _ _ hc) (rv_X3 hI) ml_X3_109 im_X3_write se_X3_write ini_X3 co_X3_write hyX3_write rfl ⟨by decide, by decide⟩ hl.1 rfl (Nat.le_of_ble_eq_true rfl) dX3_readLeaf_48 (fun H locs hI => ?_)
      refine lv_aload_n C.1 C.2.1 dX3_readLeaf_51 rfl (lv_at hl 0 rfl) ?_
      obtain ⟨I, hc, hs⟩ := bd_e hs
      refine C_call C hI (kX3_advance l D cy P0 q z tl xx _ _ _ _ _ hc) (rv_X3 hI) ml_X3_54 im_X3_advance se_X3_advance ini_X3 co_X3_advance hyX3_advance rfl ⟨by decide, by decide⟩ hl.1 rfl (Nat.le_of_ble_eq_true rfl) dX3_readLeaf_52 (fun H locs hI => ?_)
      refine lv_iconst (v := 1) C.1 C.2.1 dX3_readLeaf_55 (by decide) ?_
      obtain ⟨rfl, rfl, rfl⟩ := so3 hs
      exact C_zret C hI (by decide) dX3_readLeaf_56
    · have hs := if_t cn hs
      refine lv_aload_n C.1 C.2.1 dX3_readLeaf_30 rfl (lv_at hl 0 rfl) ?_
      refine lv_iconst (v := 0) C.1 C.2.1 dX3_readLeaf_31 (by decide) ?_
      refine lv_aload_n C.1 C.2.1 dX3_readLeaf_32 rfl (lv_at hl 0 rfl) ?_
      refine cg_X3_85 C hI dX3_readLeaf_33 ?_
      obtain ⟨⟨I, A⟩, hc, hs⟩ := bd_e hs
      refine C_call C hI (kX3_write l D cy P0 q z tl xx _ _ _ _ _ _ _ _ hc) (rv_X3 hI) ml_X3_109 im_X3_write se_X3_write ini_X3 co_X3_write hyX3_write rfl ⟨by decide, by decide⟩ hl.1 rfl (Nat.le_of_ble_eq_true rfl) dX3_readLeaf_36 (fun H locs hI => ?_)
      refine lv_goto (tgt := 51) C.1 C.2.1 dX3_readLeaf_39 (by decide) ?_
      refine lv_aload_n C.1 C.2.1 dX3_readLeaf_51 rfl (lv_at hl 0 rfl) ?_
      obtain ⟨I, hc, hs⟩ := bd_e hs
      refine C_call C hI (kX3_advance l D cy P0 q z tl xx _ _ _ _ _ hc) (rv_X3 hI) ml_X3_54 im_X3_advance se_X3_advance ini_X3 co_X3_advance hyX3_advance rfl ⟨by decide, by decide⟩ hl.1 rfl (Nat.le_of_ble_eq_true rfl) dX3_readLeaf_52 (fun H locs hI => ?_)
      refine lv_iconst (v := 1) C.1 C.2.1 dX3_readLeaf_55 (by decide) ?_
      obtain ⟨rfl, rfl, rfl⟩ := so3 hs
      exact C_zret C hI (by decide) dX3_readLeaf_56
  · have hs := if_f cn hs
    refine lv_iconst (v := 0) C.1 C.2.1 dX3_readLeaf_9 (by decide) ?_
    obtain ⟨rfl, rfl, rfl⟩ := so3 hs
    exact C_zret C hI (by decide) dX3_readLeaf_10
