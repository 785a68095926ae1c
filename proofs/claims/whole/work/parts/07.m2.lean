def sX8_readPart_F (rs : Int32 → (Nat → Int32) → (Nat → Int64) → (Nat → Nat → Int32) → (Nat → Nat → Int64) → Option ((Nat → Int32))) (x1 : Int32) (I : Nat → Int32) (J : Nat → Int64) (A : Nat → Nat → Int32) (B : Nat → Nat → Int64) : Option ((Nat → Int32)) :=
(sX8_fine  I J A B).bind fun r_1 =>
if r_1 = 0 then
(some I)
else
ck (inB (I 26) 401) <|
gv (A 22 (ix (I 26))) fun x2_17 =>
(sX8_sign (91 : Int32)).bind fun r_21 =>
if x2_17 = r_21 then
(gv (fun (I : Nat → Int32) =>
(sX8_fine  I J A B).bind fun r_38 =>
if r_38 = 0 then
(some I)
else
gv (upd I 26 ((I 26) + (1 : Int32))) fun I =>
(rs (x1 + (1 : Int32)) I J A B).bind fun I =>
(sX8_sign (93 : Int32)).bind fun r_65 =>
(sX8_must r_65 I J A B).bind fun I =>
some I) fun k_37 =>
if x1 = (8 : Int32) then
((sX8_faults  I J A B).bind fun I =>
k_37 I)
else
k_37 I)
else
gv (fun (I : Nat → Int32) =>
if x2_17 < (12 : Int32) then
((sX8_faults  I J A B).bind fun I =>
some I)
else
if (21 : Int32) < x2_17 then
((sX8_faults  I J A B).bind fun I =>
some I)
else
(sX8_leaf  I J A B).bind fun I =>
some I) fun k_94 =>
if x2_17 = (50 : Int32) then
(ck (inB (I 26) 401) <|
if (A 23 (ix (I 26))) ≤ (100000 : Int32) then
((sX8_leaf  I J A B).bind fun I =>
some I)
else
k_94 I)
else
k_94 I
set_option maxRecDepth 100000 in
set_option maxHeartbeats 8000000 in
theorem kX8_readPart_F (l : Launch) (D : va_G) (cy : Nat → ClassId) (q : Nat → Nat) (hd : Nat) (hh : 4 ≤ hd) (rs : Int32 → (Nat → Int32) → (Nat → Int64) → (Nat → Nat → Int32) → (Nat → Nat → Int64) → Option ((Nat → Int32))) (hrec : ∀ (z0 : Int32) (I : Nat → Int32) (J : Nat → Int64) (A : Nat → Nat → Int32) (B : Nat → Nat → Int64) (I2 : Nat → Int32), rs z0 I J A B = some I2 → McI l yX8_readSum cX8_readSum 2 none hd [.ref (q 46), .int z0] D cy q I J A B none I2 J A B) (x1 : Int32) (I : Nat → Int32) (J : Nat → Int64) (A : Nat → Nat → Int32) (B : Nat → Nat → Int64) (I2 : Nat → Int32) (hs : sX8_readPart_F rs x1 I J A B = some I2) : McI l yX8_readPart cX8_readPart 3 none (hd + 1) [.ref (q 46), .int x1] D cy q I J A B none I2 J A B := by
  refine M_start rfl rfl (Nat.le_of_ble_eq_true rfl) ?_
  intro p e s m args below meth c H locs C hI ls hl
  have hl : lv_has ls 3 [(0, .ref (q 46)), (1, .int x1)] := hl
  rw [sX8_readPart_F] at hs
  refine lv_aload_n C.1 C.2.1 dX8_readPart_0 rfl (lv_at hl 0 rfl) ?_
  obtain ⟨r_1, hc, hs⟩ := bd_e hs
  refine M_call C hI (kX8_fine l D cy q _ _ _ _ _ hc) ml_X8_183 im_X8_fine se_X8_fine ini_X8 co_X8_fine hyX8_fine rfl ⟨by omega, by decide⟩ hl.1 rfl (Nat.le_of_ble_eq_true rfl) dX8_readPart_1 (fun H locs hI => ?_)
  refine lv_if_ne (tgt := 8) C.1 C.2.1 dX8_readPart_4 (by decide) (fun cn => ?_) (fun cn => ?_)
  · have hs := if_f cn hs
    refine lv_aload_n C.1 C.2.1 dX8_readPart_8 rfl (lv_at hl 0 rfl) ?_
    refine mg_22 C hI dX8_readPart_9 ?_
    refine lv_aload_n C.1 C.2.1 dX8_readPart_12 rfl (lv_at hl 0 rfl) ?_
    refine mg_26 C hI dX8_readPart_13 ?_
    obtain ⟨hk, hs⟩ := ck_e hs
    refine ma_22 C hI hk dX8_readPart_16 ?_
    refine lv_topi (fun x2_17 ex2_17 => ?_)
    have hs := gv_at ex2_17 hs
    refine lv_istore_n (lv' := [(2, .int x2_17), (0, .ref (q 46)), (1, .int x1)]) C.1 C.2.1 dX8_readPart_17 rfl hl (by decide) rfl (fun ls hl => ?_)
    refine lv_iload_n C.1 C.2.1 dX8_readPart_18 rfl (lv_at hl 0 rfl) ?_
    refine lv_bipush (v := 91) C.1 C.2.1 dX8_readPart_19 (by decide) ?_
    obtain ⟨r_21, hc, hs⟩ := bd_e hs
    refine S_call (h := (hd + 1)) C (kX8_sign l _ _ hc) ml_X8_215 st_X8_sign ini_X8 co_X8_sign hyX8_sign rfl ⟨by omega, by decide⟩ hl.1 rfl (Nat.le_of_ble_eq_true rfl) dX8_readPart_21 ⟨Nat.le_refl 0, Nat.le_refl 0, Nat.le_refl _, Nat.le_refl _⟩ ?_
    refine lv_icmp_ne (tgt := 74) C.1 C.2.1 dX8_readPart_24 (by decide) (fun cn => ?_) (fun cn => ?_)
    · have hs := if_f cn hs
      refine lv_iload_n C.1 C.2.1 dX8_readPart_74 rfl (lv_at hl 0 rfl) ?_
      refine lv_bipush (v := 50) C.1 C.2.1 dX8_readPart_75 (by decide) ?_
      obtain ⟨k_94, ek_94, hs⟩ := gv_ex hs
      have KJ_94 : ∀ (I : Nat → Int32) (H : Heap) (locs : List Loc) (ls : Array Slot), k_94 I = some I2 → MI D cy s s.heap H locs q I J A B → lv_has ls 3 [(0, .ref (q 46)), (2, .int x2_17)] → W p l e (rmL (hd + 1)) s m args below meth c H locs 0 0 (MQ below (mQ D cy q none I2 J A B) args s 0 0 (MA q)) (F0 m 94 ls []) := by
        intro I H locs ls hs hI hl
        rw [ek_94] at hs
        refine lv_iload_n C.1 C.2.1 dX8_readPart_94 rfl (lv_at hl 1 rfl) ?_
        refine lv_bipush (v := 12) C.1 C.2.1 dX8_readPart_95 (by decide) ?_
        refine lv_icmp_lt (tgt := 113) C.1 C.2.1 dX8_readPart_97 (by decide) (fun cn => ?_) (fun cn => ?_)
        · have hs := if_t cn hs
          refine lv_aload_n C.1 C.2.1 dX8_readPart_113 rfl (lv_at hl 0 rfl) ?_
          obtain ⟨I, hc, hs⟩ := bd_e hs
          refine M_call C hI (kX8_faults l D cy q _ _ _ _ _ hc) ml_X8_193 im_X8_faults se_X8_faults ini_X8 co_X8_faults hyX8_faults rfl ⟨by omega, by decide⟩ hl.1 rfl (Nat.le_of_ble_eq_true rfl) dX8_readPart_114 (fun H locs hI => ?_)
          obtain rfl := Option.some.inj hs
          exact M_vret C hI dX8_readPart_117
        · have hs := if_f cn hs
          refine lv_iload_n C.1 C.2.1 dX8_readPart_100 rfl (lv_at hl 1 rfl) ?_
          refine lv_bipush (v := 21) C.1 C.2.1 dX8_readPart_101 (by decide) ?_
          refine lv_icmp_gt (tgt := 113) C.1 C.2.1 dX8_readPart_103 (by decide) (fun cn => ?_) (fun cn => ?_)
          · have hs := if_t cn hs
            refine lv_aload_n C.1 C.2.1 dX8_readPart_113 rfl (lv_at hl 0 rfl) ?_
            obtain ⟨I, hc, hs⟩ := bd_e hs
            refine M_call C hI (kX8_faults l D cy q _ _ _ _ _ hc) ml_X8_193 im_X8_faults se_X8_faults ini_X8 co_X8_faults hyX8_faults rfl ⟨by omega, by decide⟩ hl.1 rfl (Nat.le_of_ble_eq_true rfl) dX8_readPart_114 (fun H locs hI => ?_)
            obtain rfl := Option.some.inj hs
            exact M_vret C hI dX8_readPart_117
          · have hs := if_f cn hs
            refine lv_aload_n C.1 C.2.1 dX8_readPart_106 rfl (lv_at hl 0 rfl) ?_
            obtain ⟨I, hc, hs⟩ := bd_e hs
            refine M_call C hI (kX8_leaf l D cy q _ _ _ _ _ hc) ml_X8_219 im_X8_leaf se_X8_leaf ini_X8 co_X8_leaf hyX8_leaf rfl ⟨by omega, by decide⟩ hl.1 rfl (Nat.le_of_ble_eq_true rfl) dX8_readPart_107 (fun H locs hI => ?_)
            refine lv_goto (tgt := 117) C.1 C.2.1 dX8_readPart_110 (by decide) ?_
            obtain rfl := Option.some.inj hs
            exact M_vret C hI dX8_readPart_117
      refine lv_icmp_ne (tgt := 94) C.1 C.2.1 dX8_readPart_77 (by decide) (fun cn => ?_) (fun cn => ?_)
      · have hs := if_f cn hs
        exact KJ_94 _ _ _ _ hs hI (lv_sub hl [1, 0] rfl)
      · have hs := if_t cn hs
        refine lv_aload_n C.1 C.2.1 dX8_readPart_80 rfl (lv_at hl 1 rfl) ?_
        refine mg_23 C hI dX8_readPart_81 ?_
        refine lv_aload_n C.1 C.2.1 dX8_readPart_84 rfl (lv_at hl 1 rfl) ?_
        refine mg_26 C hI dX8_readPart_85 ?_
        obtain ⟨hk, hs⟩ := ck_e hs
        refine ma_23 C hI hk dX8_readPart_88 ?_
        refine lv_ldc C.1 C.2.1 C.2.2.2.1 (C.2.2.2.2.1 _ kc_X8_98) dX8_readPart_89 ?_
        refine lv_icmp_le (tgt := 106) C.1 C.2.1 dX8_readPart_91 (by decide) (fun cn => ?_) (fun cn => ?_)
        · have hs := if_t cn hs
          refine lv_aload_n C.1 C.2.1 dX8_readPart_106 rfl (lv_at hl 1 rfl) ?_
          obtain ⟨I, hc, hs⟩ := bd_e hs
          refine M_call C hI (kX8_leaf l D cy q _ _ _ _ _ hc) ml_X8_219 im_X8_leaf se_X8_leaf ini_X8 co_X8_leaf hyX8_leaf rfl ⟨by omega, by decide⟩ hl.1 rfl (Nat.le_of_ble_eq_true rfl) dX8_readPart_107 (fun H locs hI => ?_)
          refine lv_goto (tgt := 117) C.1 C.2.1 dX8_readPart_110 (by decide) ?_
          obtain rfl := Option.some.inj hs
          exact M_vret C hI dX8_readPart_117
        · have hs := if_f cn hs
          exact KJ_94 _ _ _ _ hs hI (lv_sub hl [1, 0] rfl)
    · have hs := if_t cn hs
      refine lv_iload_n C.1 C.2.1 dX8_readPart_27 rfl (lv_at hl 2 rfl) ?_
      refine lv_bipush (v := 8) C.1 C.2.1 dX8_readPart_28 (by decide) ?_
      obtain ⟨k_37, ek_37, hs⟩ := gv_ex hs
      have KJ_37 : ∀ (I : Nat → Int32) (H : Heap) (locs : List Loc) (ls : Array Slot), k_37 I = some I2 → MI D cy s s.heap H locs q I J A B → lv_has ls 3 [(0, .ref (q 46)), (1, .int x1)] → W p l e (rmL (hd + 1)) s m args below meth c H locs 0 0 (MQ below (mQ D cy q none I2 J A B) args s 0 0 (MA q)) (F0 m 37 ls []) := by
        intro I H locs ls hs hI hl
        rw [ek_37] at hs
        refine lv_aload_n C.1 C.2.1 dX8_readPart_37 rfl (lv_at hl 0 rfl) ?_
        obtain ⟨r_38, hc, hs⟩ := bd_e hs
        refine M_call C hI (kX8_fine l D cy q _ _ _ _ _ hc) ml_X8_183 im_X8_fine se_X8_fine ini_X8 co_X8_fine hyX8_fine rfl ⟨by omega, by decide⟩ hl.1 rfl (Nat.le_of_ble_eq_true rfl) dX8_readPart_38 (fun H locs hI => ?_)
        refine lv_if_ne (tgt := 45) C.1 C.2.1 dX8_readPart_41 (by decide) (fun cn => ?_) (fun cn => ?_)
        · have hs := if_f cn hs
          refine lv_aload_n C.1 C.2.1 dX8_readPart_45 rfl (lv_at hl 0 rfl) ?_
          refine lv_dup C.1 C.2.1 dX8_readPart_46 rfl ?_
          refine mg_26 C hI dX8_readPart_47 ?_
          refine lv_iconst (v := 1) C.1 C.2.1 dX8_readPart_50 (by decide) ?_
          refine lv_iadd C.1 C.2.1 dX8_readPart_51 ?_
          refine mp_26 C hI dX8_readPart_52 (fun H locs hI => ?_)
          have hs := gv_be hs
          refine lv_aload_n C.1 C.2.1 dX8_readPart_55 rfl (lv_at hl 0 rfl) ?_
          refine lv_iload_n C.1 C.2.1 dX8_readPart_56 rfl (lv_at hl 1 rfl) ?_
          refine lv_iconst (v := 1) C.1 C.2.1 dX8_readPart_57 (by decide) ?_
          refine lv_iadd C.1 C.2.1 dX8_readPart_58 ?_
          obtain ⟨I, hc, hs⟩ := bd_e hs
          refine M_call C hI (hrec _ _ _ _ _ _ hc) ml_X8_199 im_X8_readSum se_X8_readSum ini_X8 co_X8_readSum hyX8_readSum rfl ⟨by omega, by decide⟩ hl.1 rfl (Nat.le_of_ble_eq_true rfl) dX8_readPart_59 (fun H locs hI => ?_)
          refine lv_aload_n C.1 C.2.1 dX8_readPart_62 rfl (lv_at hl 0 rfl) ?_
          refine lv_bipush (v := 93) C.1 C.2.1 dX8_readPart_63 (by decide) ?_
          obtain ⟨r_65, hc, hs⟩ := bd_e hs
          refine S_call (h := (hd + 1)) C (kX8_sign l _ _ hc) ml_X8_215 st_X8_sign ini_X8 co_X8_sign hyX8_sign rfl ⟨by omega, by decide⟩ hl.1 rfl (Nat.le_of_ble_eq_true rfl) dX8_readPart_65 ⟨Nat.le_refl 0, Nat.le_refl 0, Nat.le_refl _, Nat.le_refl _⟩ ?_
          obtain ⟨I, hc, hs⟩ := bd_e hs
          refine M_call C hI (kX8_must l D cy q _ _ _ _ _ _ hc) ml_X8_203 im_X8_must se_X8_must ini_X8 co_X8_must hyX8_must rfl ⟨by omega, by decide⟩ hl.1 rfl (Nat.le_of_ble_eq_true rfl) dX8_readPart_68 (fun H locs hI => ?_)
          refine lv_goto (tgt := 117) C.1 C.2.1 dX8_readPart_71 (by decide) ?_
          obtain rfl := Option.some.inj hs
          exact M_vret C hI dX8_readPart_117
        · have hs := if_t cn hs
          obtain rfl := Option.some.inj hs
          exact M_vret C hI dX8_readPart_44
      refine lv_icmp_ne (tgt := 37) C.1 C.2.1 dX8_readPart_30 (by decide) (fun cn => ?_) (fun cn => ?_)
      · have hs := if_f cn hs
        exact KJ_37 _ _ _ _ hs hI (lv_sub hl [1, 2] rfl)
      · have hs := if_t cn hs
        refine lv_aload_n C.1 C.2.1 dX8_readPart_33 rfl (lv_at hl 1 rfl) ?_
        obtain ⟨I, hc, hs⟩ := bd_e hs
        refine M_call C hI (kX8_faults l D cy q _ _ _ _ _ hc) ml_X8_193 im_X8_faults se_X8_faults ini_X8 co_X8_faults hyX8_faults rfl ⟨by omega, by decide⟩ hl.1 rfl (Nat.le_of_ble_eq_true rfl) dX8_readPart_34 (fun H locs hI => ?_)
        exact KJ_37 _ _ _ _ hs hI (lv_sub hl [1, 2] rfl)
  · have hs := if_t cn hs
    obtain rfl := Option.some.inj hs
    exact M_vret C hI dX8_readPart_7

def lX8_readTerm_5 (rs : Int32 → (Nat → Int32) → (Nat → Int64) → (Nat → Nat → Int32) → (Nat → Nat → Int64) → Option ((Nat → Int32))) : Nat → Int32 → (Nat → Int32) → (Nat → Int64) → (Nat → Nat → Int32) → (Nat → Nat → Int64) → Option ((Nat → Int32))
  | 0, _, _, _, _, _ => none
  | n + 1, x1, I, J, A, B =>
    (sX8_sign (42 : Int32)).bind fun r_8 =>
    (sX8_takes r_8 I J A B).bind fun (r_11, I) =>
    if r_11 = 0 then
    ((sX8_sign (47 : Int32)).bind fun r_20 =>
    (sX8_takes r_20 I J A B).bind fun (r_23, I) =>
    if r_23 = 0 then
    (some I)
    else
    (sX8_readPart_F rs x1 I J A B).bind fun I =>
    lX8_readTerm_5 rs n x1 I J A B)
    else
    (sX8_readPart_F rs x1 I J A B).bind fun I =>
    lX8_readTerm_5 rs n x1 I J A B
def sX8_readTerm_F (rs : Int32 → (Nat → Int32) → (Nat → Int64) → (Nat → Nat → Int32) → (Nat → Nat → Int64) → Option ((Nat → Int32))) (x1 : Int32) (I : Nat → Int32) (J : Nat → Int64) (A : Nat → Nat → Int32) (B : Nat → Nat → Int64) : Option ((Nat → Int32)) :=
(sX8_readPart_F rs x1 I J A B).bind fun I =>
(lX8_readTerm_5 rs FU x1 I J A B).bind fun I =>
some I
set_option maxRecDepth 100000 in
set_option maxHeartbeats 8000000 in
theorem kX8_readTerm_F (l : Launch) (D : va_G) (cy : Nat → ClassId) (q : Nat → Nat) (hd : Nat) (hh : 4 ≤ hd) (rs : Int32 → (Nat → Int32) → (Nat → Int64) → (Nat → Nat → Int32) → (Nat → Nat → Int64) → Option ((Nat → Int32))) (hrec : ∀ (z0 : Int32) (I : Nat → Int32) (J : Nat → Int64) (A : Nat → Nat → Int32) (B : Nat → Nat → Int64) (I2 : Nat → Int32), rs z0 I J A B = some I2 → McI l yX8_readSum cX8_readSum 2 none hd [.ref (q 46), .int z0] D cy q I J A B none I2 J A B) (x1 : Int32) (I : Nat → Int32) (J : Nat → Int64) (A : Nat → Nat → Int32) (B : Nat → Nat → Int64) (I2 : Nat → Int32) (hs : sX8_readTerm_F rs x1 I J A B = some I2) : McI l yX8_readTerm cX8_readTerm 2 none (hd + 2) [.ref (q 46), .int x1] D cy q I J A B none I2 J A B := by
  refine M_start rfl rfl (Nat.le_of_ble_eq_true rfl) ?_
  intro p e s m args below meth c H locs C hI ls hl
  have hl : lv_has ls 2 [(0, .ref (q 46)), (1, .int x1)] := hl
  rw [sX8_readTerm_F] at hs
  refine lv_aload_n C.1 C.2.1 dX8_readTerm_0 rfl (lv_at hl 0 rfl) ?_
  refine lv_iload_n C.1 C.2.1 dX8_readTerm_1 rfl (lv_at hl 1 rfl) ?_
  obtain ⟨I, hc, hs⟩ := bd_e hs
  refine M_call C hI (kX8_readPart_F l D cy q hd hh rs hrec _ _ _ _ _ _ hc) ml_X8_225 im_X8_readPart se_X8_readPart ini_X8 co_X8_readPart hyX8_readPart rfl ⟨by omega, by decide⟩ hl.1 rfl (Nat.le_of_ble_eq_true rfl) dX8_readTerm_2 (fun H locs hI => ?_)
  have KL_5 : ∀ (n : Nat) (x1 : Int32) (I : Nat → Int32) (J : Nat → Int64) (A : Nat → Nat → Int32) (B : Nat → Nat → Int64) (o : (Nat → Int32)) (Q : State → Prop) (H : Heap) (locs : List Loc) (ls : Array Slot), lX8_readTerm_5 rs n x1 I J A B = some o → MI D cy s s.heap H locs q I J A B → lv_has ls 2 [(0, .ref (q 46)), (1, .int x1)] → (∀ (I_0 : Nat → Int32) (H : Heap) (locs : List Loc) (ls : Array Slot), o = I_0 → MI D cy s s.heap H locs q I_0 J A B → lv_has ls 2 [] → W p l e (rmL (hd + 2)) s m args below meth c H locs 0 0 Q (F0 m 37 ls [])) → W p l e (rmL (hd + 2)) s m args below meth c H locs 0 0 Q (F0 m 5 ls []) := by
    intro n; induction n with
    | zero => intro x1 I J A B o Q H locs ls hs; rw [lX8_readTerm_5] at hs; cases hs
    | succ n ih =>
      intro x1 I J A B o Q H locs ls hs hI hl kk0
      rw [lX8_readTerm_5] at hs
      refine lv_aload_n C.1 C.2.1 dX8_readTerm_5 rfl (lv_at hl 0 rfl) ?_
      refine lv_bipush (v := 42) C.1 C.2.1 dX8_readTerm_6 (by decide) ?_
      obtain ⟨r_8, hc, hs⟩ := bd_e hs
      refine S_call (h := (hd + 2)) C (kX8_sign l _ _ hc) ml_X8_215 st_X8_sign ini_X8 co_X8_sign hyX8_sign rfl ⟨by omega, by decide⟩ hl.1 rfl (Nat.le_of_ble_eq_true rfl) dX8_readTerm_8 ⟨Nat.le_refl 0, Nat.le_refl 0, Nat.le_refl _, Nat.le_refl _⟩ ?_
      obtain ⟨⟨r_11, I⟩, hc, hs⟩ := bd_e hs
      refine M_call C hI (kX8_takes l D cy q _ _ _ _ _ _ _ hc) ml_X8_190 im_X8_takes se_X8_takes ini_X8 co_X8_takes hyX8_takes rfl ⟨by omega, by decide⟩ hl.1 rfl (Nat.le_of_ble_eq_true rfl) dX8_readTerm_11 (fun H locs hI => ?_)
      refine lv_if_ne (tgt := 29) C.1 C.2.1 dX8_readTerm_14 (by decide) (fun cn => ?_) (fun cn => ?_)
      · have hs := if_f cn hs
        refine lv_aload_n C.1 C.2.1 dX8_readTerm_29 rfl (lv_at hl 0 rfl) ?_
        refine lv_iload_n C.1 C.2.1 dX8_readTerm_30 rfl (lv_at hl 1 rfl) ?_
        obtain ⟨I, hc, hs⟩ := bd_e hs
        refine M_call C hI (kX8_readPart_F l D cy q hd hh rs hrec _ _ _ _ _ _ hc) ml_X8_225 im_X8_readPart se_X8_readPart ini_X8 co_X8_readPart hyX8_readPart rfl ⟨by omega, by decide⟩ hl.1 rfl (Nat.le_of_ble_eq_true rfl) dX8_readTerm_31 (fun H locs hI => ?_)
        refine lv_goto (tgt := 5) C.1 C.2.1 dX8_readTerm_34 (by decide) ?_
        exact ih _ _ _ _ _ _ _ _ _ _ hs hI (lv_sub hl [0, 1] rfl) kk0
      · have hs := if_t cn hs
        refine lv_aload_n C.1 C.2.1 dX8_readTerm_17 rfl (lv_at hl 0 rfl) ?_
        refine lv_bipush (v := 47) C.1 C.2.1 dX8_readTerm_18 (by decide) ?_
        obtain ⟨r_20, hc, hs⟩ := bd_e hs
        refine S_call (h := (hd + 2)) C (kX8_sign l _ _ hc) ml_X8_215 st_X8_sign ini_X8 co_X8_sign hyX8_sign rfl ⟨by omega, by decide⟩ hl.1 rfl (Nat.le_of_ble_eq_true rfl) dX8_readTerm_20 ⟨Nat.le_refl 0, Nat.le_refl 0, Nat.le_refl _, Nat.le_refl _⟩ ?_
        obtain ⟨⟨r_23, I⟩, hc, hs⟩ := bd_e hs
        refine M_call C hI (kX8_takes l D cy q _ _ _ _ _ _ _ hc) ml_X8_190 im_X8_takes se_X8_takes ini_X8 co_X8_takes hyX8_takes rfl ⟨by omega, by decide⟩ hl.1 rfl (Nat.le_of_ble_eq_true rfl) dX8_readTerm_23 (fun H locs hI => ?_)
        refine lv_if_eq (tgt := 37) C.1 C.2.1 dX8_readTerm_26 (by decide) (fun cn => ?_) (fun cn => ?_)
        · have hs := if_t cn hs
          have eo := (Option.some.inj hs).symm
          exact kk0 _ _ _ _ eo hI (lv_sub hl [] rfl)
        · have hs := if_f cn hs
          refine lv_aload_n C.1 C.2.1 dX8_readTerm_29 rfl (lv_at hl 0 rfl) ?_
          refine lv_iload_n C.1 C.2.1 dX8_readTerm_30 rfl (lv_at hl 1 rfl) ?_
          obtain ⟨I, hc, hs⟩ := bd_e hs
          refine M_call C hI (kX8_readPart_F l D cy q hd hh rs hrec _ _ _ _ _ _ hc) ml_X8_225 im_X8_readPart se_X8_readPart ini_X8 co_X8_readPart hyX8_readPart rfl ⟨by omega, by decide⟩ hl.1 rfl (Nat.le_of_ble_eq_true rfl) dX8_readTerm_31 (fun H locs hI => ?_)
          refine lv_goto (tgt := 5) C.1 C.2.1 dX8_readTerm_34 (by decide) ?_
          exact ih _ _ _ _ _ _ _ _ _ _ hs hI (lv_sub hl [0, 1] rfl) kk0
  obtain ⟨I_L, hL, hs⟩ := bd_e hs
  refine KL_5 FU _ _ _ _ _ _ _ _ _ _ hL hI (lv_sub hl [0, 1] rfl) (fun z0 H locs ls eo hI hl => ?_)
  subst eo
  obtain rfl := Option.some.inj hs
  exact M_vret C hI dX8_readTerm_37

def lX8_readSum_5 (rs : Int32 → (Nat → Int32) → (Nat → Int64) → (Nat → Nat → Int32) → (Nat → Nat → Int64) → Option ((Nat → Int32))) : Nat → Int32 → (Nat → Int32) → (Nat → Int64) → (Nat → Nat → Int32) → (Nat → Nat → Int64) → Option ((Nat → Int32))
  | 0, _, _, _, _, _ => none
  | n + 1, x1, I, J, A, B =>
    (sX8_sign (43 : Int32)).bind fun r_8 =>
    (sX8_takes r_8 I J A B).bind fun (r_11, I) =>
    if r_11 = 0 then
    ((sX8_sign (45 : Int32)).bind fun r_20 =>
    (sX8_takes r_20 I J A B).bind fun (r_23, I) =>
    if r_23 = 0 then
    (some I)
    else
    (sX8_readTerm_F rs x1 I J A B).bind fun I =>
    lX8_readSum_5 rs n x1 I J A B)
    else
    (sX8_readTerm_F rs x1 I J A B).bind fun I =>
    lX8_readSum_5 rs n x1 I J A B
def sX8_readSum_F (rs : Int32 → (Nat → Int32) → (Nat → Int64) → (Nat → Nat → Int32) → (Nat → Nat → Int64) → Option ((Nat → Int32))) (x1 : Int32) (I : Nat → Int32) (J : Nat → Int64) (A : Nat → Nat → Int32) (B : Nat → Nat → Int64) : Option ((Nat → Int32)) :=
(sX8_readTerm_F rs x1 I J A B).bind fun I =>
(lX8_readSum_5 rs FU x1 I J A B).bind fun I =>
some I
set_option maxRecDepth 100000 in
set_option maxHeartbeats 8000000 in
theorem kX8_readSum_F (l : Launch) (D : va_G) (cy : Nat → ClassId) (q : Nat → Nat) (hd : Nat) (hh : 4 ≤ hd) (rs : Int32 → (Nat → Int32) → (Nat → Int64) → (Nat → Nat → Int32) → (Nat → Nat → Int64) → Option ((Nat → Int32))) (hrec : ∀ (z0 : Int32) (I : Nat → Int32) (J : Nat → Int64) (A : Nat → Nat → Int32) (B : Nat → Nat → Int64) (I2 : Nat → Int32), rs z0 I J A B = some I2 → McI l yX8_readSum cX8_readSum 2 none hd [.ref (q 46), .int z0] D cy q I J A B none I2 J A B) (x1 : Int32) (I : Nat → Int32) (J : Nat → Int64) (A : Nat → Nat → Int32) (B : Nat → Nat → Int64) (I2 : Nat → Int32) (hs : sX8_readSum_F rs x1 I J A B = some I2) : McI l yX8_readSum cX8_readSum 2 none (hd + 3) [.ref (q 46), .int x1] D cy q I J A B none I2 J A B := by
  refine M_start rfl rfl (Nat.le_of_ble_eq_true rfl) ?_
  intro p e s m args below meth c H locs C hI ls hl
  have hl : lv_has ls 2 [(0, .ref (q 46)), (1, .int x1)] := hl
  rw [sX8_readSum_F] at hs
  refine lv_aload_n C.1 C.2.1 dX8_readSum_0 rfl (lv_at hl 0 rfl) ?_
  refine lv_iload_n C.1 C.2.1 dX8_readSum_1 rfl (lv_at hl 1 rfl) ?_
  obtain ⟨I, hc, hs⟩ := bd_e hs
  refine M_call C hI (kX8_readTerm_F l D cy q hd hh rs hrec _ _ _ _ _ _ hc) ml_X8_222 im_X8_readTerm se_X8_readTerm ini_X8 co_X8_readTerm hyX8_readTerm rfl ⟨by omega, by decide⟩ hl.1 rfl (Nat.le_of_ble_eq_true rfl) dX8_readSum_2 (fun H locs hI => ?_)
  have KL_5 : ∀ (n : Nat) (x1 : Int32) (I : Nat → Int32) (J : Nat → Int64) (A : Nat → Nat → Int32) (B : Nat → Nat → Int64) (o : (Nat → Int32)) (Q : State → Prop) (H : Heap) (locs : List Loc) (ls : Array Slot), lX8_readSum_5 rs n x1 I J A B = some o → MI D cy s s.heap H locs q I J A B → lv_has ls 2 [(0, .ref (q 46)), (1, .int x1)] → (∀ (I_0 : Nat → Int32) (H : Heap) (locs : List Loc) (ls : Array Slot), o = I_0 → MI D cy s s.heap H locs q I_0 J A B → lv_has ls 2 [] → W p l e (rmL (hd + 3)) s m args below meth c H locs 0 0 Q (F0 m 37 ls [])) → W p l e (rmL (hd + 3)) s m args below meth c H locs 0 0 Q (F0 m 5 ls []) := by
    intro n; induction n with
    | zero => intro x1 I J A B o Q H locs ls hs; rw [lX8_readSum_5] at hs; cases hs
    | succ n ih =>
      intro x1 I J A B o Q H locs ls hs hI hl kk0
      rw [lX8_readSum_5] at hs
      refine lv_aload_n C.1 C.2.1 dX8_readSum_5 rfl (lv_at hl 0 rfl) ?_
      refine lv_bipush (v := 43) C.1 C.2.1 dX8_readSum_6 (by decide) ?_
      obtain ⟨r_8, hc, hs⟩ := bd_e hs
      refine S_call (h := (hd + 3)) C (kX8_sign l _ _ hc) ml_X8_215 st_X8_sign ini_X8 co_X8_sign hyX8_sign rfl ⟨by omega, by decide⟩ hl.1 rfl (Nat.le_of_ble_eq_true rfl) dX8_readSum_8 ⟨Nat.le_refl 0, Nat.le_refl 0, Nat.le_refl _, Nat.le_refl _⟩ ?_
      obtain ⟨⟨r_11, I⟩, hc, hs⟩ := bd_e hs
      refine M_call C hI (kX8_takes l D cy q _ _ _ _ _ _ _ hc) ml_X8_190 im_X8_takes se_X8_takes ini_X8 co_X8_takes hyX8_takes rfl ⟨by omega, by decide⟩ hl.1 rfl (Nat.le_of_ble_eq_true rfl) dX8_readSum_11 (fun H locs hI => ?_)
      refine lv_if_ne (tgt := 29) C.1 C.2.1 dX8_readSum_14 (by decide) (fun cn => ?_) (fun cn => ?_)
      · have hs := if_f cn hs
        refine lv_aload_n C.1 C.2.1 dX8_readSum_29 rfl (lv_at hl 0 rfl) ?_
        refine lv_iload_n C.1 C.2.1 dX8_readSum_30 rfl (lv_at hl 1 rfl) ?_
        obtain ⟨I, hc, hs⟩ := bd_e hs
        refine M_call C hI (kX8_readTerm_F l D cy q hd hh rs hrec _ _ _ _ _ _ hc) ml_X8_222 im_X8_readTerm se_X8_readTerm ini_X8 co_X8_readTerm hyX8_readTerm rfl ⟨by omega, by decide⟩ hl.1 rfl (Nat.le_of_ble_eq_true rfl) dX8_readSum_31 (fun H locs hI => ?_)
        refine lv_goto (tgt := 5) C.1 C.2.1 dX8_readSum_34 (by decide) ?_
        exact ih _ _ _ _ _ _ _ _ _ _ hs hI (lv_sub hl [0, 1] rfl) kk0
      · have hs := if_t cn hs
        refine lv_aload_n C.1 C.2.1 dX8_readSum_17 rfl (lv_at hl 0 rfl) ?_
        refine lv_bipush (v := 45) C.1 C.2.1 dX8_readSum_18 (by decide) ?_
        obtain ⟨r_20, hc, hs⟩ := bd_e hs
        refine S_call (h := (hd + 3)) C (kX8_sign l _ _ hc) ml_X8_215 st_X8_sign ini_X8 co_X8_sign hyX8_sign rfl ⟨by omega, by decide⟩ hl.1 rfl (Nat.le_of_ble_eq_true rfl) dX8_readSum_20 ⟨Nat.le_refl 0, Nat.le_refl 0, Nat.le_refl _, Nat.le_refl _⟩ ?_
        obtain ⟨⟨r_23, I⟩, hc, hs⟩ := bd_e hs
        refine M_call C hI (kX8_takes l D cy q _ _ _ _ _ _ _ hc) ml_X8_190 im_X8_takes se_X8_takes ini_X8 co_X8_takes hyX8_takes rfl ⟨by omega, by decide⟩ hl.1 rfl (Nat.le_of_ble_eq_true rfl) dX8_readSum_23 (fun H locs hI => ?_)
        refine lv_if_eq (tgt := 37) C.1 C.2.1 dX8_readSum_26 (by decide) (fun cn => ?_) (fun cn => ?_)
        · have hs := if_t cn hs
          have eo := (Option.some.inj hs).symm
          exact kk0 _ _ _ _ eo hI (lv_sub hl [] rfl)
        · have hs := if_f cn hs
          refine lv_aload_n C.1 C.2.1 dX8_readSum_29 rfl (lv_at hl 0 rfl) ?_
          refine lv_iload_n C.1 C.2.1 dX8_readSum_30 rfl (lv_at hl 1 rfl) ?_
          obtain ⟨I, hc, hs⟩ := bd_e hs
          refine M_call C hI (kX8_readTerm_F l D cy q hd hh rs hrec _ _ _ _ _ _ hc) ml_X8_222 im_X8_readTerm se_X8_readTerm ini_X8 co_X8_readTerm hyX8_readTerm rfl ⟨by omega, by decide⟩ hl.1 rfl (Nat.le_of_ble_eq_true rfl) dX8_readSum_31 (fun H locs hI => ?_)
          refine lv_goto (tgt := 5) C.1 C.2.1 dX8_readSum_34 (by decide) ?_
          exact ih _ _ _ _ _ _ _ _ _ _ hs hI (lv_sub hl [0, 1] rfl) kk0
  obtain ⟨I_L, hL, hs⟩ := bd_e hs
  refine KL_5 FU _ _ _ _ _ _ _ _ _ _ hL hI (lv_sub hl [0, 1] rfl) (fun z0 H locs ls eo hI hl => ?_)
  subst eo
  obtain rfl := Option.some.inj hs
  exact M_vret C hI dX8_readSum_37
def sX8_readSum : Nat → Int32 → (Nat → Int32) → (Nat → Int64) → (Nat → Nat → Int32) → (Nat → Nat → Int64) → Option ((Nat → Int32))
  | 0, _, _, _, _, _ => none
  | d + 1, x1, I, J, A, B => sX8_readSum_F (sX8_readSum d) x1 I J A B
theorem kX8_readSum (l : Launch) (D : va_G) (cy : Nat → ClassId) (q : Nat → Nat) (d : Nat) : ∀ (x1 : Int32) (I : Nat → Int32) (J : Nat → Int64) (A : Nat → Nat → Int32) (B : Nat → Nat → Int64) (I2 : Nat → Int32), sX8_readSum d x1 I J A B = some I2 → McI l yX8_readSum cX8_readSum 2 none (4 + 3 * d) [.ref (q 46), .int x1] D cy q I J A B none I2 J A B := by
  induction d with
  | zero => intro x1 I J A B I2 hs; rw [sX8_readSum] at hs; cases hs
  | succ d ih =>
    intro x1 I J A B I2 hs
    rw [sX8_readSum] at hs
    have e : 4 + 3 * (d + 1) = (4 + 3 * d) + 3 := by omega
    rw [e]
    exact kX8_readSum_F l D cy q (4 + 3 * d) (by omega) (sX8_readSum d) ih x1 I J A B I2 hs

def lX8_readPlain_2 (rs : Int32 → (Nat → Int32) → (Nat → Int64) → (Nat → Nat → Int32) → (Nat → Nat → Int64) → Option ((Nat → Int32))) : Nat → Int32 → Int32 → (Nat → Int32) → (Nat → Int64) → (Nat → Nat → Int32) → (Nat → Nat → Int64) → Option ((Nat → Int32))
  | 0, _, _, _, _, _, _ => none
  | n + 1, x1, x2, I, J, A, B =>
    if x2 = 0 then
    (some I)
    else
    (sX8_takes (7 : Int32) I J A B).bind fun (r_9, I) =>
    lX8_readPlain_2 rs n x1 r_9 I J A B
def sX8_readPlain_F (rs : Int32 → (Nat → Int32) → (Nat → Int64) → (Nat → Nat → Int32) → (Nat → Nat → Int64) → Option ((Nat → Int32))) (x1 : Int32) (I : Nat → Int32) (J : Nat → Int64) (A : Nat → Nat → Int32) (B : Nat → Nat → Int64) : Option ((Nat → Int32)) :=
(lX8_readPlain_2 rs FU x1 (1 : Int32) I J A B).bind fun I =>
(sX8_fine  I J A B).bind fun r_17 =>
if r_17 = 0 then
(some I)
else
ck (inB (I 26) 401) <|
gv (A 22 (ix (I 26))) fun x3_33 =>
(sX8_sign (40 : Int32)).bind fun r_37 =>
if x3_33 = r_37 then
(gv (fun (I : Nat → Int32) =>
(sX8_fine  I J A B).bind fun r_54 =>
if r_54 = 0 then
(some I)
else
gv (upd I 26 ((I 26) + (1 : Int32))) fun I =>
(rs (x1 + (1 : Int32)) I J A B).bind fun I =>
(sX8_sign (41 : Int32)).bind fun r_81 =>
(sX8_must r_81 I J A B).bind fun I =>
some I) fun k_53 =>
if x1 = (8 : Int32) then
((sX8_faults  I J A B).bind fun I =>
k_53 I)
else
k_53 I)
else
gv (fun (I : Nat → Int32) =>
(sX8_readSum 10 x1 I J A B).bind fun I =>
(sX8_sign (60 : Int32)).bind fun r_117 =>
(sX8_takes r_117 I J A B).bind fun (r_120, I) =>
if r_120 = 0 then
((sX8_sign (62 : Int32)).bind fun r_129 =>
(sX8_takes r_129 I J A B).bind fun (r_132, I) =>
if r_132 = 0 then
((sX8_sign (61 : Int32)).bind fun r_141 =>
(sX8_must r_141 I J A B).bind fun I =>
(sX8_readSum 10 x1 I J A B).bind fun I =>
some I)
else
(sX8_readSum 10 x1 I J A B).bind fun I =>
some I)
else
(sX8_readSum 10 x1 I J A B).bind fun I =>
some I) fun k_109 =>
if x3_33 < (8 : Int32) then
(k_109 I)
else
if (11 : Int32) < x3_33 then
(k_109 I)
else
(sX8_leaf  I J A B).bind fun I =>
some I
set_option maxRecDepth 100000 in
set_option maxHeartbeats 8000000 in
theorem kX8_readPlain_F (l : Launch) (D : va_G) (cy : Nat → ClassId) (q : Nat → Nat) (hd : Nat) (hh : 35 ≤ hd) (rs : Int32 → (Nat → Int32) → (Nat → Int64) → (Nat → Nat → Int32) → (Nat → Nat → Int64) → Option ((Nat → Int32))) (hrec : ∀ (z0 : Int32) (I : Nat → Int32) (J : Nat → Int64) (A : Nat → Nat → Int32) (B : Nat → Nat → Int64) (I2 : Nat → Int32), rs z0 I J A B = some I2 → McI l yX8_readTest cX8_readTest 2 none hd [.ref (q 46), .int z0] D cy q I J A B none I2 J A B) (x1 : Int32) (I : Nat → Int32) (J : Nat → Int64) (A : Nat → Nat → Int32) (B : Nat → Nat → Int64) (I2 : Nat → Int32) (hs : sX8_readPlain_F rs x1 I J A B = some I2) : McI l yX8_readPlain cX8_readPlain 4 none (hd + 1) [.ref (q 46), .int x1] D cy q I J A B none I2 J A B := by
  refine M_start rfl rfl (Nat.le_of_ble_eq_true rfl) ?_
  intro p e s m args below meth c H locs C hI ls hl
  have hl : lv_has ls 4 [(0, .ref (q 46)), (1, .int x1)] := hl
  rw [sX8_readPlain_F] at hs
  refine lv_iconst (v := 1) C.1 C.2.1 dX8_readPlain_0 (by decide) ?_
  refine lv_istore_n (lv' := [(2, .int (1 : Int32)), (0, .ref (q 46)), (1, .int x1)]) C.1 C.2.1 dX8_readPlain_1 rfl hl (by decide) rfl (fun ls hl => ?_)
  have KL_2 : ∀ (n : Nat) (x1 : Int32) (x2 : Int32) (I : Nat → Int32) (J : Nat → Int64) (A : Nat → Nat → Int32) (B : Nat → Nat → Int64) (o : (Nat → Int32)) (Q : State → Prop) (H : Heap) (locs : List Loc) (ls : Array Slot), lX8_readPlain_2 rs n x1 x2 I J A B = some o → MI D cy s s.heap H locs q I J A B → lv_has ls 4 [(0, .ref (q 46)), (1, .int x1), (2, .int x2)] → (∀ (I_0 : Nat → Int32) (H : Heap) (locs : List Loc) (ls : Array Slot), o = I_0 → MI D cy s s.heap H locs q I_0 J A B → lv_has ls 4 [(0, .ref (q 46)), (1, .int x1)] → W p l e (rmL (hd + 1)) s m args below meth c H locs 0 0 Q (F0 m 16 ls [])) → W p l e (rmL (hd + 1)) s m args below meth c H locs 0 0 Q (F0 m 2 ls []) := by
    intro n; induction n with
    | zero => intro x1 x2 I J A B o Q H locs ls hs; rw [lX8_readPlain_2] at hs; cases hs
    | succ n ih =>
      intro x1 x2 I J A B o Q H locs ls hs hI hl kk0
      rw [lX8_readPlain_2] at hs
      refine lv_iload_n C.1 C.2.1 dX8_readPlain_2 rfl (lv_at hl 2 rfl) ?_
      refine lv_if_eq (tgt := 16) C.1 C.2.1 dX8_readPlain_3 (by decide) (fun cn => ?_) (fun cn => ?_)
      · have hs := if_t cn hs
        have eo := (Option.some.inj hs).symm
        exact kk0 _ _ _ _ eo hI (lv_sub hl [0, 1] rfl)
      · have hs := if_f cn hs
        refine lv_aload_n C.1 C.2.1 dX8_readPlain_6 rfl (lv_at hl 0 rfl) ?_
        refine lv_bipush (v := 7) C.1 C.2.1 dX8_readPlain_7 (by decide) ?_
        obtain ⟨⟨r_9, I⟩, hc, hs⟩ := bd_e hs
        refine M_call C hI (kX8_takes l D cy q _ _ _ _ _ _ _ hc) ml_X8_190 im_X8_takes se_X8_takes ini_X8 co_X8_takes hyX8_takes rfl ⟨by omega, by decide⟩ hl.1 rfl (Nat.le_of_ble_eq_true rfl) dX8_readPlain_9 (fun H locs hI => ?_)
        refine lv_istore_n (lv' := [(2, .int r_9), (0, .ref (q 46)), (1, .int x1)]) C.1 C.2.1 dX8_readPlain_12 rfl hl (by decide) rfl (fun ls hl => ?_)
        refine lv_goto (tgt := 2) C.1 C.2.1 dX8_readPlain_13 (by decide) ?_
        exact ih _ _ _ _ _ _ _ _ _ _ _ hs hI (lv_sub hl [1, 2, 0] rfl) kk0
  obtain ⟨I_L, hL, hs⟩ := bd_e hs
  refine KL_2 FU _ _ _ _ _ _ _ _ _ _ _ hL hI (lv_sub hl [1, 2, 0] rfl) (fun z0 H locs ls eo hI hl => ?_)
  subst eo
  refine lv_aload_n C.1 C.2.1 dX8_readPlain_16 rfl (lv_at hl 0 rfl) ?_
  obtain ⟨r_17, hc, hs⟩ := bd_e hs
  refine M_call C hI (kX8_fine l D cy q _ _ _ _ _ hc) ml_X8_183 im_X8_fine se_X8_fine ini_X8 co_X8_fine hyX8_fine rfl ⟨by omega, by decide⟩ hl.1 rfl (Nat.le_of_ble_eq_true rfl) dX8_readPlain_17 (fun H locs hI => ?_)
  refine lv_if_ne (tgt := 24) C.1 C.2.1 dX8_readPlain_20 (by decide) (fun cn => ?_) (fun cn => ?_)
  · have hs := if_f cn hs
    refine lv_aload_n C.1 C.2.1 dX8_readPlain_24 rfl (lv_at hl 0 rfl) ?_
    refine mg_22 C hI dX8_readPlain_25 ?_
    refine lv_aload_n C.1 C.2.1 dX8_readPlain_28 rfl (lv_at hl 0 rfl) ?_
    refine mg_26 C hI dX8_readPlain_29 ?_
    obtain ⟨hk, hs⟩ := ck_e hs
    refine ma_22 C hI hk dX8_readPlain_32 ?_
    refine lv_topi (fun x3_33 ex3_33 => ?_)
    have hs := gv_at ex3_33 hs
    refine lv_istore_n (lv' := [(3, .int x3_33), (0, .ref (q 46)), (1, .int x1)]) C.1 C.2.1 dX8_readPlain_33 rfl hl (by decide) rfl (fun ls hl => ?_)
    refine lv_iload_n C.1 C.2.1 dX8_readPlain_34 rfl (lv_at hl 0 rfl) ?_
    refine lv_bipush (v := 40) C.1 C.2.1 dX8_readPlain_35 (by decide) ?_
    obtain ⟨r_37, hc, hs⟩ := bd_e hs
    refine S_call (h := (hd + 1)) C (kX8_sign l _ _ hc) ml_X8_215 st_X8_sign ini_X8 co_X8_sign hyX8_sign rfl ⟨by omega, by decide⟩ hl.1 rfl (Nat.le_of_ble_eq_true rfl) dX8_readPlain_37 ⟨Nat.le_refl 0, Nat.le_refl 0, Nat.le_refl _, Nat.le_refl _⟩ ?_
    refine lv_icmp_ne (tgt := 90) C.1 C.2.1 dX8_readPlain_40 (by decide) (fun cn => ?_) (fun cn => ?_)
    · have hs := if_f cn hs
      refine lv_iload_n C.1 C.2.1 dX8_readPlain_90 rfl (lv_at hl 0 rfl) ?_
      refine lv_bipush (v := 8) C.1 C.2.1 dX8_readPlain_91 (by decide) ?_
      obtain ⟨k_109, ek_109, hs⟩ := gv_ex hs
      have KJ_109 : ∀ (I : Nat → Int32) (H : Heap) (locs : List Loc) (ls : Array Slot), k_109 I = some I2 → MI D cy s s.heap H locs q I J A B → lv_has ls 4 [(0, .ref (q 46)), (1, .int x1)] → W p l e (rmL (hd + 1)) s m args below meth c H locs 0 0 (MQ below (mQ D cy q none I2 J A B) args s 0 0 (MA q)) (F0 m 109 ls []) := by
        intro I H locs ls hs hI hl
        rw [ek_109] at hs
        refine lv_aload_n C.1 C.2.1 dX8_readPlain_109 rfl (lv_at hl 0 rfl) ?_
        refine lv_iload_n C.1 C.2.1 dX8_readPlain_110 rfl (lv_at hl 1 rfl) ?_
        obtain ⟨I, hc, hs⟩ := bd_e hs
        refine M_call C hI (kX8_readSum l D cy q 10 _ _ _ _ _ _ hc) ml_X8_199 im_X8_readSum se_X8_readSum ini_X8 co_X8_readSum hyX8_readSum rfl ⟨by omega, by decide⟩ hl.1 rfl (Nat.le_of_ble_eq_true rfl) dX8_readPlain_111 (fun H locs hI => ?_)
        refine lv_aload_n C.1 C.2.1 dX8_readPlain_114 rfl (lv_at hl 0 rfl) ?_
        refine lv_bipush (v := 60) C.1 C.2.1 dX8_readPlain_115 (by decide) ?_
        obtain ⟨r_117, hc, hs⟩ := bd_e hs
        refine S_call (h := (hd + 1)) C (kX8_sign l _ _ hc) ml_X8_215 st_X8_sign ini_X8 co_X8_sign hyX8_sign rfl ⟨by omega, by decide⟩ hl.1 rfl (Nat.le_of_ble_eq_true rfl) dX8_readPlain_117 ⟨Nat.le_refl 0, Nat.le_refl 0, Nat.le_refl _, Nat.le_refl _⟩ ?_
        obtain ⟨⟨r_120, I⟩, hc, hs⟩ := bd_e hs
        refine M_call C hI (kX8_takes l D cy q _ _ _ _ _ _ _ hc) ml_X8_190 im_X8_takes se_X8_takes ini_X8 co_X8_takes hyX8_takes rfl ⟨by omega, by decide⟩ hl.1 rfl (Nat.le_of_ble_eq_true rfl) dX8_readPlain_120 (fun H locs hI => ?_)
        refine lv_if_ne (tgt := 147) C.1 C.2.1 dX8_readPlain_123 (by decide) (fun cn => ?_) (fun cn => ?_)
        · have hs := if_f cn hs
          refine lv_aload_n C.1 C.2.1 dX8_readPlain_147 rfl (lv_at hl 0 rfl) ?_
          refine lv_iload_n C.1 C.2.1 dX8_readPlain_148 rfl (lv_at hl 1 rfl) ?_
          obtain ⟨I, hc, hs⟩ := bd_e hs
          refine M_call C hI (kX8_readSum l D cy q 10 _ _ _ _ _ _ hc) ml_X8_199 im_X8_readSum se_X8_readSum ini_X8 co_X8_readSum hyX8_readSum rfl ⟨by omega, by decide⟩ hl.1 rfl (Nat.le_of_ble_eq_true rfl) dX8_readPlain_149 (fun H locs hI => ?_)
          obtain rfl := Option.some.inj hs
          exact M_vret C hI dX8_readPlain_152
        · have hs := if_t cn hs
          refine lv_aload_n C.1 C.2.1 dX8_readPlain_126 rfl (lv_at hl 0 rfl) ?_
          refine lv_bipush (v := 62) C.1 C.2.1 dX8_readPlain_127 (by decide) ?_
          obtain ⟨r_129, hc, hs⟩ := bd_e hs
          refine S_call (h := (hd + 1)) C (kX8_sign l _ _ hc) ml_X8_215 st_X8_sign ini_X8 co_X8_sign hyX8_sign rfl ⟨by omega, by decide⟩ hl.1 rfl (Nat.le_of_ble_eq_true rfl) dX8_readPlain_129 ⟨Nat.le_refl 0, Nat.le_refl 0, Nat.le_refl _, Nat.le_refl _⟩ ?_
          obtain ⟨⟨r_132, I⟩, hc, hs⟩ := bd_e hs
          refine M_call C hI (kX8_takes l D cy q _ _ _ _ _ _ _ hc) ml_X8_190 im_X8_takes se_X8_takes ini_X8 co_X8_takes hyX8_takes rfl ⟨by omega, by decide⟩ hl.1 rfl (Nat.le_of_ble_eq_true rfl) dX8_readPlain_132 (fun H locs hI => ?_)
          refine lv_if_ne (tgt := 147) C.1 C.2.1 dX8_readPlain_135 (by decide) (fun cn => ?_) (fun cn => ?_)
          · have hs := if_f cn hs
            refine lv_aload_n C.1 C.2.1 dX8_readPlain_147 rfl (lv_at hl 0 rfl) ?_
            refine lv_iload_n C.1 C.2.1 dX8_readPlain_148 rfl (lv_at hl 1 rfl) ?_
            obtain ⟨I, hc, hs⟩ := bd_e hs
            refine M_call C hI (kX8_readSum l D cy q 10 _ _ _ _ _ _ hc) ml_X8_199 im_X8_readSum se_X8_readSum ini_X8 co_X8_readSum hyX8_readSum rfl ⟨by omega, by decide⟩ hl.1 rfl (Nat.le_of_ble_eq_true rfl) dX8_readPlain_149 (fun H locs hI => ?_)
            obtain rfl := Option.some.inj hs
            exact M_vret C hI dX8_readPlain_152
          · have hs := if_t cn hs
            refine lv_aload_n C.1 C.2.1 dX8_readPlain_138 rfl (lv_at hl 0 rfl) ?_
            refine lv_bipush (v := 61) C.1 C.2.1 dX8_readPlain_139 (by decide) ?_
            obtain ⟨r_141, hc, hs⟩ := bd_e hs
            refine S_call (h := (hd + 1)) C (kX8_sign l _ _ hc) ml_X8_215 st_X8_sign ini_X8 co_X8_sign hyX8_sign rfl ⟨by omega, by decide⟩ hl.1 rfl (Nat.le_of_ble_eq_true rfl) dX8_readPlain_141 ⟨Nat.le_refl 0, Nat.le_refl 0, Nat.le_refl _, Nat.le_refl _⟩ ?_
            obtain ⟨I, hc, hs⟩ := bd_e hs
            refine M_call C hI (kX8_must l D cy q _ _ _ _ _ _ hc) ml_X8_203 im_X8_must se_X8_must ini_X8 co_X8_must hyX8_must rfl ⟨by omega, by decide⟩ hl.1 rfl (Nat.le_of_ble_eq_true rfl) dX8_readPlain_144 (fun H locs hI => ?_)
            refine lv_aload_n C.1 C.2.1 dX8_readPlain_147 rfl (lv_at hl 0 rfl) ?_
            refine lv_iload_n C.1 C.2.1 dX8_readPlain_148 rfl (lv_at hl 1 rfl) ?_
            obtain ⟨I, hc, hs⟩ := bd_e hs
            refine M_call C hI (kX8_readSum l D cy q 10 _ _ _ _ _ _ hc) ml_X8_199 im_X8_readSum se_X8_readSum ini_X8 co_X8_readSum hyX8_readSum rfl ⟨by omega, by decide⟩ hl.1 rfl (Nat.le_of_ble_eq_true rfl) dX8_readPlain_149 (fun H locs hI => ?_)
            obtain rfl := Option.some.inj hs
            exact M_vret C hI dX8_readPlain_152
      refine lv_icmp_lt (tgt := 109) C.1 C.2.1 dX8_readPlain_93 (by decide) (fun cn => ?_) (fun cn => ?_)
      · have hs := if_t cn hs
        exact KJ_109 _ _ _ _ hs hI (lv_sub hl [1, 2] rfl)
      · have hs := if_f cn hs
        refine lv_iload_n C.1 C.2.1 dX8_readPlain_96 rfl (lv_at hl 0 rfl) ?_
        refine lv_bipush (v := 11) C.1 C.2.1 dX8_readPlain_97 (by decide) ?_
        refine lv_icmp_gt (tgt := 109) C.1 C.2.1 dX8_readPlain_99 (by decide) (fun cn => ?_) (fun cn => ?_)
        · have hs := if_t cn hs
          exact KJ_109 _ _ _ _ hs hI (lv_sub hl [1, 2] rfl)
        · have hs := if_f cn hs
          refine lv_aload_n C.1 C.2.1 dX8_readPlain_102 rfl (lv_at hl 1 rfl) ?_
          obtain ⟨I, hc, hs⟩ := bd_e hs
          refine M_call C hI (kX8_leaf l D cy q _ _ _ _ _ hc) ml_X8_219 im_X8_leaf se_X8_leaf ini_X8 co_X8_leaf hyX8_leaf rfl ⟨by omega, by decide⟩ hl.1 rfl (Nat.le_of_ble_eq_true rfl) dX8_readPlain_103 (fun H locs hI => ?_)
          refine lv_goto (tgt := 152) C.1 C.2.1 dX8_readPlain_106 (by decide) ?_
          obtain rfl := Option.some.inj hs
          exact M_vret C hI dX8_readPlain_152
    · have hs := if_t cn hs
      refine lv_iload_n C.1 C.2.1 dX8_readPlain_43 rfl (lv_at hl 2 rfl) ?_
      refine lv_bipush (v := 8) C.1 C.2.1 dX8_readPlain_44 (by decide) ?_
      obtain ⟨k_53, ek_53, hs⟩ := gv_ex hs
      have KJ_53 : ∀ (I : Nat → Int32) (H : Heap) (locs : List Loc) (ls : Array Slot), k_53 I = some I2 → MI D cy s s.heap H locs q I J A B → lv_has ls 4 [(0, .ref (q 46)), (1, .int x1)] → W p l e (rmL (hd + 1)) s m args below meth c H locs 0 0 (MQ below (mQ D cy q none I2 J A B) args s 0 0 (MA q)) (F0 m 53 ls []) := by
        intro I H locs ls hs hI hl
        rw [ek_53] at hs
        refine lv_aload_n C.1 C.2.1 dX8_readPlain_53 rfl (lv_at hl 0 rfl) ?_
        obtain ⟨r_54, hc, hs⟩ := bd_e hs
        refine M_call C hI (kX8_fine l D cy q _ _ _ _ _ hc) ml_X8_183 im_X8_fine se_X8_fine ini_X8 co_X8_fine hyX8_fine rfl ⟨by omega, by decide⟩ hl.1 rfl (Nat.le_of_ble_eq_true rfl) dX8_readPlain_54 (fun H locs hI => ?_)
        refine lv_if_ne (tgt := 61) C.1 C.2.1 dX8_readPlain_57 (by decide) (fun cn => ?_) (fun cn => ?_)
        · have hs := if_f cn hs
          refine lv_aload_n C.1 C.2.1 dX8_readPlain_61 rfl (lv_at hl 0 rfl) ?_
          refine lv_dup C.1 C.2.1 dX8_readPlain_62 rfl ?_
          refine mg_26 C hI dX8_readPlain_63 ?_
          refine lv_iconst (v := 1) C.1 C.2.1 dX8_readPlain_66 (by decide) ?_
          refine lv_iadd C.1 C.2.1 dX8_readPlain_67 ?_
          refine mp_26 C hI dX8_readPlain_68 (fun H locs hI => ?_)
          have hs := gv_be hs
          refine lv_aload_n C.1 C.2.1 dX8_readPlain_71 rfl (lv_at hl 0 rfl) ?_
          refine lv_iload_n C.1 C.2.1 dX8_readPlain_72 rfl (lv_at hl 1 rfl) ?_
          refine lv_iconst (v := 1) C.1 C.2.1 dX8_readPlain_73 (by decide) ?_
          refine lv_iadd C.1 C.2.1 dX8_readPlain_74 ?_
          obtain ⟨I, hc, hs⟩ := bd_e hs
          refine M_call C hI (hrec _ _ _ _ _ _ hc) ml_X8_206 im_X8_readTest se_X8_readTest ini_X8 co_X8_readTest hyX8_readTest rfl ⟨by omega, by decide⟩ hl.1 rfl (Nat.le_of_ble_eq_true rfl) dX8_readPlain_75 (fun H locs hI => ?_)
          refine lv_aload_n C.1 C.2.1 dX8_readPlain_78 rfl (lv_at hl 0 rfl) ?_
          refine lv_bipush (v := 41) C.1 C.2.1 dX8_readPlain_79 (by decide) ?_
          obtain ⟨r_81, hc, hs⟩ := bd_e hs
          refine S_call (h := (hd + 1)) C (kX8_sign l _ _ hc) ml_X8_215 st_X8_sign ini_X8 co_X8_sign hyX8_sign rfl ⟨by omega, by decide⟩ hl.1 rfl (Nat.le_of_ble_eq_true rfl) dX8_readPlain_81 ⟨Nat.le_refl 0, Nat.le_refl 0, Nat.le_refl _, Nat.le_refl _⟩ ?_
          obtain ⟨I, hc, hs⟩ := bd_e hs
          refine M_call C hI (kX8_must l D cy q _ _ _ _ _ _ hc) ml_X8_203 im_X8_must se_X8_must ini_X8 co_X8_must hyX8_must rfl ⟨by omega, by decide⟩ hl.1 rfl (Nat.le_of_ble_eq_true rfl) dX8_readPlain_84 (fun H locs hI => ?_)
          refine lv_goto (tgt := 152) C.1 C.2.1 dX8_readPlain_87 (by decide) ?_
          obtain rfl := Option.some.inj hs
          exact M_vret C hI dX8_readPlain_152
        · have hs := if_t cn hs
          obtain rfl := Option.some.inj hs
          exact M_vret C hI dX8_readPlain_60
      refine lv_icmp_ne (tgt := 53) C.1 C.2.1 dX8_readPlain_46 (by decide) (fun cn => ?_) (fun cn => ?_)
      · have hs := if_f cn hs
        exact KJ_53 _ _ _ _ hs hI (lv_sub hl [1, 2] rfl)
      · have hs := if_t cn hs
        refine lv_aload_n C.1 C.2.1 dX8_readPlain_49 rfl (lv_at hl 1 rfl) ?_
        obtain ⟨I, hc, hs⟩ := bd_e hs
        refine M_call C hI (kX8_faults l D cy q _ _ _ _ _ hc) ml_X8_193 im_X8_faults se_X8_faults ini_X8 co_X8_faults hyX8_faults rfl ⟨by omega, by decide⟩ hl.1 rfl (Nat.le_of_ble_eq_true rfl) dX8_readPlain_50 (fun H locs hI => ?_)
        exact KJ_53 _ _ _ _ hs hI (lv_sub hl [1, 2] rfl)
  · have hs := if_t cn hs
    obtain rfl := Option.some.inj hs
    exact M_vret C hI dX8_readPlain_23

def lX8_readBoth_5 (rs : Int32 → (Nat → Int32) → (Nat → Int64) → (Nat → Nat → Int32) → (Nat → Nat → Int64) → Option ((Nat → Int32))) : Nat → Int32 → (Nat → Int32) → (Nat → Int64) → (Nat → Nat → Int32) → (Nat → Nat → Int64) → Option ((Nat → Int32))
  | 0, _, _, _, _, _ => none
  | n + 1, x1, I, J, A, B =>
    (sX8_takes (6 : Int32) I J A B).bind fun (r_8, I) =>
    if r_8 = 0 then
    (some I)
    else
    (sX8_readPlain_F rs x1 I J A B).bind fun I =>
    lX8_readBoth_5 rs n x1 I J A B
def sX8_readBoth_F (rs : Int32 → (Nat → Int32) → (Nat → Int64) → (Nat → Nat → Int32) → (Nat → Nat → Int64) → Option ((Nat → Int32))) (x1 : Int32) (I : Nat → Int32) (J : Nat → Int64) (A : Nat → Nat → Int32) (B : Nat → Nat → Int64) : Option ((Nat → Int32)) :=
(sX8_readPlain_F rs x1 I J A B).bind fun I =>
(lX8_readBoth_5 rs FU x1 I J A B).bind fun I =>
some I
set_option maxRecDepth 100000 in
set_option maxHeartbeats 8000000 in
theorem kX8_readBoth_F (l : Launch) (D : va_G) (cy : Nat → ClassId) (q : Nat → Nat) (hd : Nat) (hh : 35 ≤ hd) (rs : Int32 → (Nat → Int32) → (Nat → Int64) → (Nat → Nat → Int32) → (Nat → Nat → Int64) → Option ((Nat → Int32))) (hrec : ∀ (z0 : Int32) (I : Nat → Int32) (J : Nat → Int64) (A : Nat → Nat → Int32) (B : Nat → Nat → Int64) (I2 : Nat → Int32), rs z0 I J A B = some I2 → McI l yX8_readTest cX8_readTest 2 none hd [.ref (q 46), .int z0] D cy q I J A B none I2 J A B) (x1 : Int32) (I : Nat → Int32) (J : Nat → Int64) (A : Nat → Nat → Int32) (B : Nat → Nat → Int64) (I2 : Nat → Int32) (hs : sX8_readBoth_F rs x1 I J A B = some I2) : McI l yX8_readBoth cX8_readBoth 2 none (hd + 2) [.ref (q 46), .int x1] D cy q I J A B none I2 J A B := by
  refine M_start rfl rfl (Nat.le_of_ble_eq_true rfl) ?_
  intro p e s m args below meth c H locs C hI ls hl
  have hl : lv_has ls 2 [(0, .ref (q 46)), (1, .int x1)] := hl
  rw [sX8_readBoth_F] at hs
  refine lv_aload_n C.1 C.2.1 dX8_readBoth_0 rfl (lv_at hl 0 rfl) ?_
  refine lv_iload_n C.1 C.2.1 dX8_readBoth_1 rfl (lv_at hl 1 rfl) ?_
  obtain ⟨I, hc, hs⟩ := bd_e hs
  refine M_call C hI (kX8_readPlain_F l D cy q hd hh rs hrec _ _ _ _ _ _ hc) ml_X8_212 im_X8_readPlain se_X8_readPlain ini_X8 co_X8_readPlain hyX8_readPlain rfl ⟨by omega, by decide⟩ hl.1 rfl (Nat.le_of_ble_eq_true rfl) dX8_readBoth_2 (fun H locs hI => ?_)
  have KL_5 : ∀ (n : Nat) (x1 : Int32) (I : Nat → Int32) (J : Nat → Int64) (A : Nat → Nat → Int32) (B : Nat → Nat → Int64) (o : (Nat → Int32)) (Q : State → Prop) (H : Heap) (locs : List Loc) (ls : Array Slot), lX8_readBoth_5 rs n x1 I J A B = some o → MI D cy s s.heap H locs q I J A B → lv_has ls 2 [(0, .ref (q 46)), (1, .int x1)] → (∀ (I_0 : Nat → Int32) (H : Heap) (locs : List Loc) (ls : Array Slot), o = I_0 → MI D cy s s.heap H locs q I_0 J A B → lv_has ls 2 [] → W p l e (rmL (hd + 2)) s m args below meth c H locs 0 0 Q (F0 m 22 ls [])) → W p l e (rmL (hd + 2)) s m args below meth c H locs 0 0 Q (F0 m 5 ls []) := by
    intro n; induction n with
    | zero => intro x1 I J A B o Q H locs ls hs; rw [lX8_readBoth_5] at hs; cases hs
    | succ n ih =>
      intro x1 I J A B o Q H locs ls hs hI hl kk0
      rw [lX8_readBoth_5] at hs
      refine lv_aload_n C.1 C.2.1 dX8_readBoth_5 rfl (lv_at hl 0 rfl) ?_
      refine lv_bipush (v := 6) C.1 C.2.1 dX8_readBoth_6 (by decide) ?_
      obtain ⟨⟨r_8, I⟩, hc, hs⟩ := bd_e hs
      refine M_call C hI (kX8_takes l D cy q _ _ _ _ _ _ _ hc) ml_X8_190 im_X8_takes se_X8_takes ini_X8 co_X8_takes hyX8_takes rfl ⟨by omega, by decide⟩ hl.1 rfl (Nat.le_of_ble_eq_true rfl) dX8_readBoth_8 (fun H locs hI => ?_)
      refine lv_if_eq (tgt := 22) C.1 C.2.1 dX8_readBoth_11 (by decide) (fun cn => ?_) (fun cn => ?_)
      · have hs := if_t cn hs
        have eo := (Option.some.inj hs).symm
        exact kk0 _ _ _ _ eo hI (lv_sub hl [] rfl)
      · have hs := if_f cn hs
        refine lv_aload_n C.1 C.2.1 dX8_readBoth_14 rfl (lv_at hl 0 rfl) ?_
        refine lv_iload_n C.1 C.2.1 dX8_readBoth_15 rfl (lv_at hl 1 rfl) ?_
        obtain ⟨I, hc, hs⟩ := bd_e hs
        refine M_call C hI (kX8_readPlain_F l D cy q hd hh rs hrec _ _ _ _ _ _ hc) ml_X8_212 im_X8_readPlain se_X8_readPlain ini_X8 co_X8_readPlain hyX8_readPlain rfl ⟨by omega, by decide⟩ hl.1 rfl (Nat.le_of_ble_eq_true rfl) dX8_readBoth_16 (fun H locs hI => ?_)
        refine lv_goto (tgt := 5) C.1 C.2.1 dX8_readBoth_19 (by decide) ?_
        exact ih _ _ _ _ _ _ _ _ _ _ hs hI (lv_sub hl [0, 1] rfl) kk0
  obtain ⟨I_L, hL, hs⟩ := bd_e hs
  refine KL_5 FU _ _ _ _ _ _ _ _ _ _ hL hI (lv_sub hl [0, 1] rfl) (fun z0 H locs ls eo hI hl => ?_)
  subst eo
  obtain rfl := Option.some.inj hs
  exact M_vret C hI dX8_readBoth_22

def lX8_readTest_5 (rs : Int32 → (Nat → Int32) → (Nat → Int64) → (Nat → Nat → Int32) → (Nat → Nat → Int64) → Option ((Nat → Int32))) : Nat → Int32 → (Nat → Int32) → (Nat → Int64) → (Nat → Nat → Int32) → (Nat → Nat → Int64) → Option ((Nat → Int32))
  | 0, _, _, _, _, _ => none
  | n + 1, x1, I, J, A, B =>
    (sX8_takes (5 : Int32) I J A B).bind fun (r_7, I) =>
    if r_7 = 0 then
    (some I)
    else
    (sX8_readBoth_F rs x1 I J A B).bind fun I =>
    lX8_readTest_5 rs n x1 I J A B
def sX8_readTest_F (rs : Int32 → (Nat → Int32) → (Nat → Int64) → (Nat → Nat → Int32) → (Nat → Nat → Int64) → Option ((Nat → Int32))) (x1 : Int32) (I : Nat → Int32) (J : Nat → Int64) (A : Nat → Nat → Int32) (B : Nat → Nat → Int64) : Option ((Nat → Int32)) :=
(sX8_readBoth_F rs x1 I J A B).bind fun I =>
(lX8_readTest_5 rs FU x1 I J A B).bind fun I =>
some I
set_option maxRecDepth 100000 in
set_option maxHeartbeats 8000000 in
theorem kX8_readTest_F (l : Launch) (D : va_G) (cy : Nat → ClassId) (q : Nat → Nat) (hd : Nat) (hh : 35 ≤ hd) (rs : Int32 → (Nat → Int32) → (Nat → Int64) → (Nat → Nat → Int32) → (Nat → Nat → Int64) → Option ((Nat → Int32))) (hrec : ∀ (z0 : Int32) (I : Nat → Int32) (J : Nat → Int64) (A : Nat → Nat → Int32) (B : Nat → Nat → Int64) (I2 : Nat → Int32), rs z0 I J A B = some I2 → McI l yX8_readTest cX8_readTest 2 none hd [.ref (q 46), .int z0] D cy q I J A B none I2 J A B) (x1 : Int32) (I : Nat → Int32) (J : Nat → Int64) (A : Nat → Nat → Int32) (B : Nat → Nat → Int64) (I2 : Nat → Int32) (hs : sX8_readTest_F rs x1 I J A B = some I2) : McI l yX8_readTest cX8_readTest 2 none (hd + 3) [.ref (q 46), .int x1] D cy q I J A B none I2 J A B := by
  refine M_start rfl rfl (Nat.le_of_ble_eq_true rfl) ?_
  intro p e s m args below meth c H locs C hI ls hl
  have hl : lv_has ls 2 [(0, .ref (q 46)), (1, .int x1)] := hl
  rw [sX8_readTest_F] at hs
  refine lv_aload_n C.1 C.2.1 dX8_readTest_0 rfl (lv_at hl 0 rfl) ?_
  refine lv_iload_n C.1 C.2.1 dX8_readTest_1 rfl (lv_at hl 1 rfl) ?_
  obtain ⟨I, hc, hs⟩ := bd_e hs
  refine M_call C hI (kX8_readBoth_F l D cy q hd hh rs hrec _ _ _ _ _ _ hc) ml_X8_209 im_X8_readBoth se_X8_readBoth ini_X8 co_X8_readBoth hyX8_readBoth rfl ⟨by omega, by decide⟩ hl.1 rfl (Nat.le_of_ble_eq_true rfl) dX8_readTest_2 (fun H locs hI => ?_)
  have KL_5 : ∀ (n : Nat) (x1 : Int32) (I : Nat → Int32) (J : Nat → Int64) (A : Nat → Nat → Int32) (B : Nat → Nat → Int64) (o : (Nat → Int32)) (Q : State → Prop) (H : Heap) (locs : List Loc) (ls : Array Slot), lX8_readTest_5 rs n x1 I J A B = some o → MI D cy s s.heap H locs q I J A B → lv_has ls 2 [(0, .ref (q 46)), (1, .int x1)] → (∀ (I_0 : Nat → Int32) (H : Heap) (locs : List Loc) (ls : Array Slot), o = I_0 → MI D cy s s.heap H locs q I_0 J A B → lv_has ls 2 [] → W p l e (rmL (hd + 3)) s m args below meth c H locs 0 0 Q (F0 m 21 ls [])) → W p l e (rmL (hd + 3)) s m args below meth c H locs 0 0 Q (F0 m 5 ls []) := by
    intro n; induction n with
    | zero => intro x1 I J A B o Q H locs ls hs; rw [lX8_readTest_5] at hs; cases hs
    | succ n ih =>
      intro x1 I J A B o Q H locs ls hs hI hl kk0
      rw [lX8_readTest_5] at hs
      refine lv_aload_n C.1 C.2.1 dX8_readTest_5 rfl (lv_at hl 0 rfl) ?_
      refine lv_iconst (v := 5) C.1 C.2.1 dX8_readTest_6 (by decide) ?_
      obtain ⟨⟨r_7, I⟩, hc, hs⟩ := bd_e hs
      refine M_call C hI (kX8_takes l D cy q _ _ _ _ _ _ _ hc) ml_X8_190 im_X8_takes se_X8_takes ini_X8 co_X8_takes hyX8_takes rfl ⟨by omega, by decide⟩ hl.1 rfl (Nat.le_of_ble_eq_true rfl) dX8_readTest_7 (fun H locs hI => ?_)
      refine lv_if_eq (tgt := 21) C.1 C.2.1 dX8_readTest_10 (by decide) (fun cn => ?_) (fun cn => ?_)
      · have hs := if_t cn hs
        have eo := (Option.some.inj hs).symm
        exact kk0 _ _ _ _ eo hI (lv_sub hl [] rfl)
      · have hs := if_f cn hs
        refine lv_aload_n C.1 C.2.1 dX8_readTest_13 rfl (lv_at hl 0 rfl) ?_
        refine lv_iload_n C.1 C.2.1 dX8_readTest_14 rfl (lv_at hl 1 rfl) ?_
        obtain ⟨I, hc, hs⟩ := bd_e hs
        refine M_call C hI (kX8_readBoth_F l D cy q hd hh rs hrec _ _ _ _ _ _ hc) ml_X8_209 im_X8_readBoth se_X8_readBoth ini_X8 co_X8_readBoth hyX8_readBoth rfl ⟨by omega, by decide⟩ hl.1 rfl (Nat.le_of_ble_eq_true rfl) dX8_readTest_15 (fun H locs hI => ?_)
        refine lv_goto (tgt := 5) C.1 C.2.1 dX8_readTest_18 (by decide) ?_
        exact ih _ _ _ _ _ _ _ _ _ _ hs hI (lv_sub hl [0, 1] rfl) kk0
  obtain ⟨I_L, hL, hs⟩ := bd_e hs
  refine KL_5 FU _ _ _ _ _ _ _ _ _ _ hL hI (lv_sub hl [0, 1] rfl) (fun z0 H locs ls eo hI hl => ?_)
  subst eo
  obtain rfl := Option.some.inj hs
  exact M_vret C hI dX8_readTest_21
def sX8_readTest : Nat → Int32 → (Nat → Int32) → (Nat → Int64) → (Nat → Nat → Int32) → (Nat → Nat → Int64) → Option ((Nat → Int32))
  | 0, _, _, _, _, _ => none
  | d + 1, x1, I, J, A, B => sX8_readTest_F (sX8_readTest d) x1 I J A B
theorem kX8_readTest (l : Launch) (D : va_G) (cy : Nat → ClassId) (q : Nat → Nat) (d : Nat) : ∀ (x1 : Int32) (I : Nat → Int32) (J : Nat → Int64) (A : Nat → Nat → Int32) (B : Nat → Nat → Int64) (I2 : Nat → Int32), sX8_readTest d x1 I J A B = some I2 → McI l yX8_readTest cX8_readTest 2 none (35 + 3 * d) [.ref (q 46), .int x1] D cy q I J A B none I2 J A B := by
  induction d with
  | zero => intro x1 I J A B I2 hs; rw [sX8_readTest] at hs; cases hs
  | succ d ih =>
    intro x1 I J A B I2 hs
    rw [sX8_readTest] at hs
    have e : 35 + 3 * (d + 1) = (35 + 3 * d) + 3 := by omega
    rw [e]
    exact kX8_readTest_F l D cy q (35 + 3 * d) (by omega) (sX8_readTest d) ih x1 I J A B I2 hs

def sX8_partOf_F (rs : Int32 → (Nat → Int32) → (Nat → Int64) → (Nat → Nat → Int32) → (Nat → Nat → Int64) → Option (Int64 × (Nat → Int32))) (x1 : Int32) (I : Nat → Int32) (J : Nat → Int64) (A : Nat → Nat → Int32) (B : Nat → Nat → Int64) : Option ((Int64) × (Nat → Int32)) :=
(sX8_sign (91 : Int32)).bind fun r_3 =>
(sX8_passes r_3 I J A B).bind fun (r_6, I) =>
if r_6 = 0 then
((sX8_codeAt (I 29) I J A B).bind fun r_35 =>
gv (upd I 29 ((I 29) + (1 : Int32))) fun I =>
if x1 = 0 then
(some ((0 : Int64), I))
else
if (I 31) = 0 then
(if r_35 = (50 : Int32) then
(ck (inB (((4847 : Int32) + (I 29)) - (1 : Int32)) 8047) <|
some ((((A 1 (ix (((4847 : Int32) + (I 29)) - (1 : Int32))))).toInt64), I))
else
ck (inB (r_35 - (12 : Int32)) 10) <|
some ((B 32 (ix (r_35 - (12 : Int32)))), I))
else
some ((0 : Int64), I))
else
(rs x1 I J A B).bind fun (r_14, I) =>
gv (upd I 29 ((I 29) + (1 : Int32))) fun I =>
some (r_14, I)
set_option maxRecDepth 100000 in
set_option maxHeartbeats 8000000 in
theorem kX8_partOf_F (l : Launch) (D : va_G) (cy : Nat → ClassId) (q : Nat → Nat) (hd : Nat) (hh : 4 ≤ hd) (rs : Int32 → (Nat → Int32) → (Nat → Int64) → (Nat → Nat → Int32) → (Nat → Nat → Int64) → Option (Int64 × (Nat → Int32))) (hrec : ∀ (z0 : Int32) (I : Nat → Int32) (J : Nat → Int64) (A : Nat → Nat → Int32) (B : Nat → Nat → Int64) (r : Int64) (I2 : Nat → Int32), rs z0 I J A B = some (r, I2) → McI l yX8_sumOf cX8_sumOf 7 (some .long) hd [.ref (q 46), .int z0] D cy q I J A B (some (.long r)) I2 J A B) (x1 : Int32) (I : Nat → Int32) (J : Nat → Int64) (A : Nat → Nat → Int32) (B : Nat → Nat → Int64) (r : Int64) (I2 : Nat → Int32) (hs : sX8_partOf_F rs x1 I J A B = some (r, I2)) : McI l yX8_partOf cX8_partOf 4 (some .long) (hd + 1) [.ref (q 46), .int x1] D cy q I J A B (some (.long r)) I2 J A B := by
  refine M_start rfl rfl (Nat.le_of_ble_eq_true rfl) ?_
  intro p e s m args below meth c H locs C hI ls hl
  have hl : lv_has ls 4 [(0, .ref (q 46)), (1, .int x1)] := hl
  rw [sX8_partOf_F] at hs
  refine lv_aload_n C.1 C.2.1 dX8_partOf_0 rfl (lv_at hl 0 rfl) ?_
  refine lv_bipush (v := 91) C.1 C.2.1 dX8_partOf_1 (by decide) ?_
  obtain ⟨r_3, hc, hs⟩ := bd_e hs
  refine S_call (h := (hd + 1)) C (kX8_sign l _ _ hc) ml_X8_215 st_X8_sign ini_X8 co_X8_sign hyX8_sign rfl ⟨by omega, by decide⟩ hl.1 rfl (Nat.le_of_ble_eq_true rfl) dX8_partOf_3 ⟨Nat.le_refl 0, Nat.le_refl 0, Nat.le_refl _, Nat.le_refl _⟩ ?_
  obtain ⟨⟨r_6, I⟩, hc, hs⟩ := bd_e hs
  refine M_call C hI (kX8_passes l D cy q _ _ _ _ _ _ _ hc) ml_X8_265 im_X8_passes se_X8_passes ini_X8 co_X8_passes hyX8_passes rfl ⟨by omega, by decide⟩ hl.1 rfl (Nat.le_of_ble_eq_true rfl) dX8_partOf_6 (fun H locs hI => ?_)
  refine lv_if_eq (tgt := 30) C.1 C.2.1 dX8_partOf_9 (by decide) (fun cn => ?_) (fun cn => ?_)
  · have hs := if_t cn hs
    refine lv_aload_n C.1 C.2.1 dX8_partOf_30 rfl (lv_at hl 0 rfl) ?_
    refine lv_aload_n C.1 C.2.1 dX8_partOf_31 rfl (lv_at hl 0 rfl) ?_
    refine mg_29 C hI dX8_partOf_32 ?_
    obtain ⟨r_35, hc, hs⟩ := bd_e hs
    refine M_call C hI (kX8_codeAt l D cy q _ _ _ _ _ _ hc) ml_X8_243 im_X8_codeAt se_X8_codeAt ini_X8 co_X8_codeAt hyX8_codeAt rfl ⟨by omega, by decide⟩ hl.1 rfl (Nat.le_of_ble_eq_true rfl) dX8_partOf_35 (fun H locs hI => ?_)
    refine lv_istore_n (lv' := [(2, .int r_35), (0, .ref (q 46)), (1, .int x1)]) C.1 C.2.1 dX8_partOf_38 rfl hl (by decide) rfl (fun ls hl => ?_)
    refine lv_aload_n C.1 C.2.1 dX8_partOf_39 rfl (lv_at hl 1 rfl) ?_
    refine lv_dup C.1 C.2.1 dX8_partOf_40 rfl ?_
    refine mg_29 C hI dX8_partOf_41 ?_
    refine lv_iconst (v := 1) C.1 C.2.1 dX8_partOf_44 (by decide) ?_
    refine lv_iadd C.1 C.2.1 dX8_partOf_45 ?_
    refine mp_29 C hI dX8_partOf_46 (fun H locs hI => ?_)
    have hs := gv_be hs
    refine lv_iload_n C.1 C.2.1 dX8_partOf_49 rfl (lv_at hl 2 rfl) ?_
    refine lv_if_eq (tgt := 60) C.1 C.2.1 dX8_partOf_50 (by decide) (fun cn => ?_) (fun cn => ?_)
    · have hs := if_t cn hs
      refine lv_lconst (v := 0) C.1 C.2.1 dX8_partOf_60 (by decide) ?_
      obtain ⟨rfl, rfl⟩ := so2 hs
      exact M_lret C hI dX8_partOf_61
    · have hs := if_f cn hs
      refine lv_aload_n C.1 C.2.1 dX8_partOf_53 rfl (lv_at hl 1 rfl) ?_
      refine mg_31 C hI dX8_partOf_54 ?_
      refine lv_if_eq (tgt := 62) C.1 C.2.1 dX8_partOf_57 (by decide) (fun cn => ?_) (fun cn => ?_)
      · have hs := if_t cn hs
        refine lv_iload_n C.1 C.2.1 dX8_partOf_62 rfl (lv_at hl 0 rfl) ?_
        refine lv_bipush (v := 50) C.1 C.2.1 dX8_partOf_63 (by decide) ?_
        refine lv_icmp_ne (tgt := 87) C.1 C.2.1 dX8_partOf_65 (by decide) (fun cn => ?_) (fun cn => ?_)
        · have hs := if_f cn hs
          refine lv_aload_n C.1 C.2.1 dX8_partOf_87 rfl (lv_at hl 1 rfl) ?_
          refine mg_32 C hI dX8_partOf_88 ?_
          refine lv_iload_n C.1 C.2.1 dX8_partOf_91 rfl (lv_at hl 0 rfl) ?_
          refine lv_bipush (v := 12) C.1 C.2.1 dX8_partOf_92 (by decide) ?_
          refine lv_isub C.1 C.2.1 dX8_partOf_94 ?_
          obtain ⟨hk, hs⟩ := ck_e hs
          refine ma_32 C hI hk dX8_partOf_95 ?_
          obtain ⟨rfl, rfl⟩ := so2 hs
          exact M_lret C hI dX8_partOf_96
        · have hs := if_t cn hs
          refine lv_aload_n C.1 C.2.1 dX8_partOf_68 rfl (lv_at hl 1 rfl) ?_
          refine mg_1 C hI dX8_partOf_69 ?_
          refine lv_sipush (v := 4847) C.1 C.2.1 dX8_partOf_72 (by decide) ?_
          refine lv_aload_n C.1 C.2.1 dX8_partOf_75 rfl (lv_at hl 1 rfl) ?_
          refine mg_29 C hI dX8_partOf_76 ?_
          refine lv_iadd C.1 C.2.1 dX8_partOf_79 ?_
          refine lv_iconst (v := 1) C.1 C.2.1 dX8_partOf_80 (by decide) ?_
          refine lv_isub C.1 C.2.1 dX8_partOf_81 ?_
          obtain ⟨hk, hs⟩ := ck_e hs
          refine ma_1 C hI hk dX8_partOf_82 ?_
          refine lv_i2l C.1 C.2.1 dX8_partOf_83 rfl ?_
          refine lv_goto (tgt := 96) C.1 C.2.1 dX8_partOf_84 (by decide) ?_
          obtain ⟨rfl, rfl⟩ := so2 hs
          exact M_lret C hI dX8_partOf_96
      · have hs := if_f cn hs
        refine lv_lconst (v := 0) C.1 C.2.1 dX8_partOf_60 (by decide) ?_
        obtain ⟨rfl, rfl⟩ := so2 hs
        exact M_lret C hI dX8_partOf_61
  · have hs := if_f cn hs
    refine lv_aload_n C.1 C.2.1 dX8_partOf_12 rfl (lv_at hl 0 rfl) ?_
    refine lv_iload_n C.1 C.2.1 dX8_partOf_13 rfl (lv_at hl 1 rfl) ?_
    obtain ⟨⟨r_14, I⟩, hc, hs⟩ := bd_e hs
    refine M_call C hI (hrec _ _ _ _ _ _ _ hc) ml_X8_268 im_X8_sumOf se_X8_sumOf ini_X8 co_X8_sumOf hyX8_sumOf rfl ⟨by omega, by decide⟩ hl.1 rfl (Nat.le_of_ble_eq_true rfl) dX8_partOf_14 (fun H locs hI => ?_)
    refine lv_lstore_n (lv' := [(2, .long r_14), (0, .ref (q 46)), (1, .int x1)]) C.1 C.2.1 dX8_partOf_17 rfl hl (by decide) rfl (fun ls hl => ?_)
    refine lv_aload_n C.1 C.2.1 dX8_partOf_18 rfl (lv_at hl 1 rfl) ?_
    refine lv_dup C.1 C.2.1 dX8_partOf_19 rfl ?_
    refine mg_29 C hI dX8_partOf_20 ?_
    refine lv_iconst (v := 1) C.1 C.2.1 dX8_partOf_23 (by decide) ?_
    refine lv_iadd C.1 C.2.1 dX8_partOf_24 ?_
    refine mp_29 C hI dX8_partOf_25 (fun H locs hI => ?_)
    have hs := gv_be hs
    refine lv_lload_n C.1 C.2.1 dX8_partOf_28 rfl (lv_at hl 0 rfl) ?_
    obtain ⟨rfl, rfl⟩ := so2 hs
    exact M_lret C hI dX8_partOf_29

def lX8_termOf_6 (rs : Int32 → (Nat → Int32) → (Nat → Int64) → (Nat → Nat → Int32) → (Nat → Nat → Int64) → Option (Int64 × (Nat → Int32))) : Nat → Int32 → Int64 → (Nat → Int32) → (Nat → Int64) → (Nat → Nat → Int32) → (Nat → Nat → Int64) → Option (Int64 × (Nat → Int32))
  | 0, _, _, _, _, _, _ => none
  | n + 1, x1, x2, I, J, A, B =>
    (sX8_codeAt (I 29) I J A B).bind fun r_11 =>
    (sX8_sign (42 : Int32)).bind fun r_16 =>
    gv (fun (I : Nat → Int32) =>
    (sX8_codeAt (I 29) I J A B).bind fun r_43 =>
    (sX8_sign (42 : Int32)).bind fun r_48 =>
    gv (if r_43 = r_48 then (1 : Int32) else (0 : Int32)) fun v_59 =>
    gv (upd I 29 ((I 29) + (1 : Int32))) fun I =>
    (sX8_partOf_F rs x1 I J A B).bind fun (r_73, I) =>
    gv (fun (x5_j113 : Int64) (I : Nat → Int32) =>
    if v_59 = 0 then
    (ck (nzL x5_j113) <|
    (sX8_bounded (x2 / x5_j113) x1 I J A B).bind fun (r_131, I) =>
    lX8_termOf_6 rs n x1 r_131 I J A B)
    else
    (sX8_bounded (x2 * x5_j113) x1 I J A B).bind fun (r_131, I) =>
    lX8_termOf_6 rs n x1 r_131 I J A B) fun k_113 =>
    if v_59 = 0 then
    (if (lg_cmp r_73 (0 : Int64)) = 0 then
    (gv (fun (y1_j107 : Int32) (I : Nat → Int32) =>
    ck (isB y1_j107) <|
    gv (upd I 31 y1_j107) fun I =>
    k_113 (1 : Int64) I) fun k_107 =>
    gv (fun (I : Nat → Int32) =>
    k_107 (1 : Int32) I) fun k_102 =>
    if (I 31) = 0 then
    (if x1 = 0 then
    (k_107 (0 : Int32) I)
    else
    k_102 I)
    else
    k_102 I)
    else
    k_113 r_73 I)
    else
    k_113 r_73 I) fun k_38 =>
    if r_11 = r_16 then
    (k_38 I)
    else
    (sX8_codeAt (I 29) I J A B).bind fun r_27 =>
    (sX8_sign (47 : Int32)).bind fun r_32 =>
    if r_27 = r_32 then
    (k_38 I)
    else
    some (x2, I)
def sX8_termOf_F (rs : Int32 → (Nat → Int32) → (Nat → Int64) → (Nat → Nat → Int32) → (Nat → Nat → Int64) → Option (Int64 × (Nat → Int32))) (x1 : Int32) (I : Nat → Int32) (J : Nat → Int64) (A : Nat → Nat → Int32) (B : Nat → Nat → Int64) : Option ((Int64) × (Nat → Int32)) :=
(sX8_partOf_F rs x1 I J A B).bind fun (r_2, I) =>
(lX8_termOf_6 rs FU x1 r_2 I J A B).bind fun (x2_6, I) =>
some (x2_6, I)
set_option maxRecDepth 100000 in
set_option maxHeartbeats 8000000 in
theorem kX8_termOf_F (l : Launch) (D : va_G) (cy : Nat → ClassId) (q : Nat → Nat) (hd : Nat) (hh : 4 ≤ hd) (rs : Int32 → (Nat → Int32) → (Nat → Int64) → (Nat → Nat → Int32) → (Nat → Nat → Int64) → Option (Int64 × (Nat → Int32))) (hrec : ∀ (z0 : Int32) (I : Nat → Int32) (J : Nat → Int64) (A : Nat → Nat → Int32) (B : Nat → Nat → Int64) (r : Int64) (I2 : Nat → Int32), rs z0 I J A B = some (r, I2) → McI l yX8_sumOf cX8_sumOf 7 (some .long) hd [.ref (q 46), .int z0] D cy q I J A B (some (.long r)) I2 J A B) (x1 : Int32) (I : Nat → Int32) (J : Nat → Int64) (A : Nat → Nat → Int32) (B : Nat → Nat → Int64) (r : Int64) (I2 : Nat → Int32) (hs : sX8_termOf_F rs x1 I J A B = some (r, I2)) : McI l yX8_termOf cX8_termOf 7 (some .long) (hd + 2) [.ref (q 46), .int x1] D cy q I J A B (some (.long r)) I2 J A B := by
  refine M_start rfl rfl (Nat.le_of_ble_eq_true rfl) ?_
  intro p e s m args below meth c H locs C hI ls hl
  have hl : lv_has ls 7 [(0, .ref (q 46)), (1, .int x1)] := hl
  rw [sX8_termOf_F] at hs
  refine lv_aload_n C.1 C.2.1 dX8_termOf_0 rfl (lv_at hl 0 rfl) ?_
  refine lv_iload_n C.1 C.2.1 dX8_termOf_1 rfl (lv_at hl 1 rfl) ?_
  obtain ⟨⟨r_2, I⟩, hc, hs⟩ := bd_e hs
  refine M_call C hI (kX8_partOf_F l D cy q hd hh rs hrec _ _ _ _ _ _ _ hc) ml_X8_262 im_X8_partOf se_X8_partOf ini_X8 co_X8_partOf hyX8_partOf rfl ⟨by omega, by decide⟩ hl.1 rfl (Nat.le_of_ble_eq_true rfl) dX8_termOf_2 (fun H locs hI => ?_)
  refine lv_lstore_n (lv' := [(2, .long r_2), (0, .ref (q 46)), (1, .int x1)]) C.1 C.2.1 dX8_termOf_5 rfl hl (by decide) rfl (fun ls hl => ?_)
  have KL_6 : ∀ (n : Nat) (x1 : Int32) (x2 : Int64) (I : Nat → Int32) (J : Nat → Int64) (A : Nat → Nat → Int32) (B : Nat → Nat → Int64) (o : Int64 × (Nat → Int32)) (Q : State → Prop) (H : Heap) (locs : List Loc) (ls : Array Slot), lX8_termOf_6 rs n x1 x2 I J A B = some o → MI D cy s s.heap H locs q I J A B → lv_has ls 7 [(0, .ref (q 46)), (1, .int x1), (2, .long x2)] → (∀ (o2_0 : Int64) (I_0 : Nat → Int32) (H : Heap) (locs : List Loc) (ls : Array Slot), o = (o2_0, I_0) → MI D cy s s.heap H locs q I_0 J A B → lv_has ls 7 [(2, .long o2_0)] → W p l e (rmL (hd + 2)) s m args below meth c H locs 0 0 Q (F0 m 138 ls [])) → W p l e (rmL (hd + 2)) s m args below meth c H locs 0 0 Q (F0 m 6 ls []) := by
    intro n; induction n with
    | zero => intro x1 x2 I J A B o Q H locs ls hs; rw [lX8_termOf_6] at hs; cases hs
    | succ n ih =>
      intro x1 x2 I J A B o Q H locs ls hs hI hl kk0
      rw [lX8_termOf_6] at hs
      refine lv_aload_n C.1 C.2.1 dX8_termOf_6 rfl (lv_at hl 0 rfl) ?_
      refine lv_aload_n C.1 C.2.1 dX8_termOf_7 rfl (lv_at hl 0 rfl) ?_
      refine mg_29 C hI dX8_termOf_8 ?_
      obtain ⟨r_11, hc, hs⟩ := bd_e hs
      refine M_call C hI (kX8_codeAt l D cy q _ _ _ _ _ _ hc) ml_X8_243 im_X8_codeAt se_X8_codeAt ini_X8 co_X8_codeAt hyX8_codeAt rfl ⟨by omega, by decide⟩ hl.1 rfl (Nat.le_of_ble_eq_true rfl) dX8_termOf_11 (fun H locs hI => ?_)
      refine lv_bipush (v := 42) C.1 C.2.1 dX8_termOf_14 (by decide) ?_
      obtain ⟨r_16, hc, hs⟩ := bd_e hs
      refine S_call (h := (hd + 2)) C (kX8_sign l _ _ hc) ml_X8_215 st_X8_sign ini_X8 co_X8_sign hyX8_sign rfl ⟨by omega, by decide⟩ hl.1 rfl (Nat.le_of_ble_eq_true rfl) dX8_termOf_16 ⟨Nat.le_refl 0, Nat.le_refl 0, Nat.le_refl _, Nat.le_refl _⟩ ?_
      obtain ⟨k_38, ek_38, hs⟩ := gv_ex hs
      have KJ_38 : ∀ (I : Nat → Int32) (H : Heap) (locs : List Loc) (ls : Array Slot), k_38 I = some o → MI D cy s s.heap H locs q I J A B → lv_has ls 7 [(0, .ref (q 46)), (1, .int x1), (2, .long x2)] → W p l e (rmL (hd + 2)) s m args below meth c H locs 0 0 Q (F0 m 38 ls []) := by
        intro I H locs ls hs hI hl
        rw [ek_38] at hs
        refine lv_aload_n C.1 C.2.1 dX8_termOf_38 rfl (lv_at hl 0 rfl) ?_
        refine lv_aload_n C.1 C.2.1 dX8_termOf_39 rfl (lv_at hl 0 rfl) ?_
        refine mg_29 C hI dX8_termOf_40 ?_
        obtain ⟨r_43, hc, hs⟩ := bd_e hs
        refine M_call C hI (kX8_codeAt l D cy q _ _ _ _ _ _ hc) ml_X8_243 im_X8_codeAt se_X8_codeAt ini_X8 co_X8_codeAt hyX8_codeAt rfl ⟨by omega, by decide⟩ hl.1 rfl (Nat.le_of_ble_eq_true rfl) dX8_termOf_43 (fun H locs hI => ?_)
        refine lv_bipush (v := 42) C.1 C.2.1 dX8_termOf_46 (by decide) ?_
        obtain ⟨r_48, hc, hs⟩ := bd_e hs
        refine S_call (h := (hd + 2)) C (kX8_sign l _ _ hc) ml_X8_215 st_X8_sign ini_X8 co_X8_sign hyX8_sign rfl ⟨by omega, by decide⟩ hl.1 rfl (Nat.le_of_ble_eq_true rfl) dX8_termOf_48 ⟨Nat.le_refl 0, Nat.le_refl 0, Nat.le_refl _, Nat.le_refl _⟩ ?_
        obtain ⟨v_59, ev_59, hs⟩ := gv_ex hs
        have KP_59 : W p l e (rmL (hd + 2)) s m args below meth c H locs 0 0 Q (F0 m 59 ls [.int v_59]) := by
          refine lv_istore (lv' := [(4, .int v_59), (0, .ref (q 46)), (1, .int x1), (2, .long x2)]) C.1 C.2.1 dX8_termOf_59 hl (by decide) rfl (fun ls hl => ?_)
          refine lv_aload_n C.1 C.2.1 dX8_termOf_61 rfl (lv_at hl 1 rfl) ?_
          refine lv_dup C.1 C.2.1 dX8_termOf_62 rfl ?_
          refine mg_29 C hI dX8_termOf_63 ?_
          refine lv_iconst (v := 1) C.1 C.2.1 dX8_termOf_66 (by decide) ?_
          refine lv_iadd C.1 C.2.1 dX8_termOf_67 ?_
          refine mp_29 C hI dX8_termOf_68 (fun H locs hI => ?_)
          have hs := gv_be hs
          refine lv_aload_n C.1 C.2.1 dX8_termOf_71 rfl (lv_at hl 1 rfl) ?_
          refine lv_iload_n C.1 C.2.1 dX8_termOf_72 rfl (lv_at hl 2 rfl) ?_
          obtain ⟨⟨r_73, I⟩, hc, hs⟩ := bd_e hs
          refine M_call C hI (kX8_partOf_F l D cy q hd hh rs hrec _ _ _ _ _ _ _ hc) ml_X8_262 im_X8_partOf se_X8_partOf ini_X8 co_X8_partOf hyX8_partOf rfl ⟨by omega, by decide⟩ hl.1 rfl (Nat.le_of_ble_eq_true rfl) dX8_termOf_73 (fun H locs hI => ?_)
          refine lv_lstore (lv' := [(5, .long r_73), (4, .int v_59), (0, .ref (q 46)), (1, .int x1), (2, .long x2)]) C.1 C.2.1 dX8_termOf_76 hl (by decide) rfl (fun ls hl => ?_)
          refine lv_iload C.1 C.2.1 dX8_termOf_78 (lv_at hl 1 rfl) ?_
          obtain ⟨k_113, ek_113, hs⟩ := gv_ex hs
          have KJ_113 : ∀ (x5_j113 : Int64) (I : Nat → Int32) (H : Heap) (locs : List Loc) (ls : Array Slot), k_113 x5_j113 I = some o → MI D cy s s.heap H locs q I J A B → lv_has ls 7 [(0, .ref (q 46)), (1, .int x1), (2, .long x2), (4, .int v_59), (5, .long x5_j113)] → W p l e (rmL (hd + 2)) s m args below meth c H locs 0 0 Q (F0 m 113 ls []) := by
            intro x5_j113 I H locs ls hs hI hl
            rw [ek_113] at hs
            refine lv_aload_n C.1 C.2.1 dX8_termOf_113 rfl (lv_at hl 0 rfl) ?_
            refine lv_iload C.1 C.2.1 dX8_termOf_114 (lv_at hl 3 rfl) ?_
            refine lv_if_eq (tgt := 126) C.1 C.2.1 dX8_termOf_116 (by decide) (fun cn => ?_) (fun cn => ?_)
            · have hs := if_t cn hs
              refine lv_lload_n C.1 C.2.1 dX8_termOf_126 rfl (lv_at hl 2 rfl) ?_
              refine lv_lload C.1 C.2.1 dX8_termOf_127 (lv_at hl 4 rfl) ?_
              obtain ⟨hz, hs⟩ := ck_e hs
              refine lv_ldiv C.1 C.2.1 dX8_termOf_129 (nzL_e hz) ?_
              refine lv_iload_n C.1 C.2.1 dX8_termOf_130 rfl (lv_at hl 1 rfl) ?_
              obtain ⟨⟨r_131, I⟩, hc, hs⟩ := bd_e hs
              refine M_call C hI (kX8_bounded l D cy q _ _ _ _ _ _ _ _ hc) ml_X8_258 im_X8_bounded se_X8_bounded ini_X8 co_X8_bounded hyX8_bounded rfl ⟨by omega, by decide⟩ hl.1 rfl (Nat.le_of_ble_eq_true rfl) dX8_termOf_131 (fun H locs hI => ?_)
              refine lv_lstore_n (lv' := [(2, .long r_131), (0, .ref (q 46)), (1, .int x1), (4, .int v_59), (5, .long x5_j113)]) C.1 C.2.1 dX8_termOf_134 rfl hl (by decide) rfl (fun ls hl => ?_)
              refine lv_goto (tgt := 6) C.1 C.2.1 dX8_termOf_135 (by decide) ?_
              exact ih _ _ _ _ _ _ _ _ _ _ _ hs hI (lv_sub hl [1, 2, 0] rfl) kk0
            · have hs := if_f cn hs
              refine lv_lload_n C.1 C.2.1 dX8_termOf_119 rfl (lv_at hl 2 rfl) ?_
              refine lv_lload C.1 C.2.1 dX8_termOf_120 (lv_at hl 4 rfl) ?_
              refine lv_lmul C.1 C.2.1 dX8_termOf_122 ?_
              refine lv_goto (tgt := 130) C.1 C.2.1 dX8_termOf_123 (by decide) ?_
              refine lv_iload_n C.1 C.2.1 dX8_termOf_130 rfl (lv_at hl 1 rfl) ?_
              obtain ⟨⟨r_131, I⟩, hc, hs⟩ := bd_e hs
              refine M_call C hI (kX8_bounded l D cy q _ _ _ _ _ _ _ _ hc) ml_X8_258 im_X8_bounded se_X8_bounded ini_X8 co_X8_bounded hyX8_bounded rfl ⟨by omega, by decide⟩ hl.1 rfl (Nat.le_of_ble_eq_true rfl) dX8_termOf_131 (fun H locs hI => ?_)
              refine lv_lstore_n (lv' := [(2, .long r_131), (0, .ref (q 46)), (1, .int x1), (4, .int v_59), (5, .long x5_j113)]) C.1 C.2.1 dX8_termOf_134 rfl hl (by decide) rfl (fun ls hl => ?_)
              refine lv_goto (tgt := 6) C.1 C.2.1 dX8_termOf_135 (by decide) ?_
              exact ih _ _ _ _ _ _ _ _ _ _ _ hs hI (lv_sub hl [1, 2, 0] rfl) kk0
          refine lv_if_ne (tgt := 113) C.1 C.2.1 dX8_termOf_80 (by decide) (fun cn => ?_) (fun cn => ?_)
          · have hs := if_f cn hs
            exact KJ_113 _ _ _ _ _ hs hI (lv_sub hl [2, 3, 4, 1, 0] rfl)
          · have hs := if_t cn hs
            refine lv_lload C.1 C.2.1 dX8_termOf_83 (lv_at hl 0 rfl) ?_
            refine lv_lconst (v := 0) C.1 C.2.1 dX8_termOf_85 (by decide) ?_
            refine W.lcmp C.1 C.2.1 dX8_termOf_86 ?_
            refine lv_if_ne (tgt := 113) C.1 C.2.1 dX8_termOf_87 (by decide) (fun cn => ?_) (fun cn => ?_)
            · have hs := if_f cn hs
              exact KJ_113 _ _ _ _ _ hs hI (lv_sub hl [2, 3, 4, 1, 0] rfl)
            · have hs := if_t cn hs
              refine lv_aload_n C.1 C.2.1 dX8_termOf_90 rfl (lv_at hl 2 rfl) ?_
              refine lv_aload_n C.1 C.2.1 dX8_termOf_91 rfl (lv_at hl 2 rfl) ?_
              refine mg_31 C hI dX8_termOf_92 ?_
              obtain ⟨k_107, ek_107, hs⟩ := gv_ex hs
              have KJ_107 : ∀ (y1_j107 : Int32) (I : Nat → Int32) (H : Heap) (locs : List Loc) (ls : Array Slot), k_107 y1_j107 I = some o → MI D cy s s.heap H locs q I J A B → lv_has ls 7 [(0, .ref (q 46)), (1, .int x1), (2, .long x2), (4, .int v_59)] → W p l e (rmL (hd + 2)) s m args below meth c H locs 0 0 Q (F0 m 107 ls [.int y1_j107, .ref (q 46)]) := by
                intro y1_j107 I H locs ls hs hI hl
                rw [ek_107] at hs
                obtain ⟨hb, hs⟩ := ck_e hs
                refine mp_31 C hI hb dX8_termOf_107 (fun H locs hI => ?_)
                have hs := gv_be hs
                refine lv_lconst (v := 1) C.1 C.2.1 dX8_termOf_110 (by decide) ?_
                refine lv_lstore (lv' := [(5, .long (1 : Int64)), (0, .ref (q 46)), (1, .int x1), (2, .long x2), (4, .int v_59)]) C.1 C.2.1 dX8_termOf_111 hl (by decide) rfl (fun ls hl => ?_)
                exact KJ_113 _ _ _ _ _ hs hI (lv_sub hl [1, 2, 3, 4, 0] rfl)
              obtain ⟨k_102, ek_102, hs⟩ := gv_ex hs
              have KJ_102 : ∀ (I : Nat → Int32) (H : Heap) (locs : List Loc) (ls : Array Slot), k_102 I = some o → MI D cy s s.heap H locs q I J A B → lv_has ls 7 [(0, .ref (q 46)), (1, .int x1), (2, .long x2), (4, .int v_59)] → W p l e (rmL (hd + 2)) s m args below meth c H locs 0 0 Q (F0 m 102 ls [.ref (q 46)]) := by
                intro I H locs ls hs hI hl
                rw [ek_102] at hs
                refine lv_iconst (v := 1) C.1 C.2.1 dX8_termOf_102 (by decide) ?_
                refine lv_goto (tgt := 107) C.1 C.2.1 dX8_termOf_103 (by decide) ?_
                exact KJ_107 _ _ _ _ _ hs hI (lv_sub hl [0, 1, 2, 3] rfl)
              refine lv_if_ne (tgt := 102) C.1 C.2.1 dX8_termOf_95 (by decide) (fun cn => ?_) (fun cn => ?_)
              · have hs := if_f cn hs
                exact KJ_102 _ _ _ _ hs hI (lv_sub hl [2, 3, 4, 1] rfl)
              · have hs := if_t cn hs
                refine lv_iload_n C.1 C.2.1 dX8_termOf_98 rfl (lv_at hl 3 rfl) ?_
                refine lv_if_eq (tgt := 106) C.1 C.2.1 dX8_termOf_99 (by decide) (fun cn => ?_) (fun cn => ?_)
                · have hs := if_t cn hs
                  refine lv_iconst (v := 0) C.1 C.2.1 dX8_termOf_106 (by decide) ?_
                  exact KJ_107 _ _ _ _ _ hs hI (lv_sub hl [2, 3, 4, 1] rfl)
                · have hs := if_f cn hs
                  exact KJ_102 _ _ _ _ hs hI (lv_sub hl [2, 3, 4, 1] rfl)
        refine lv_icmp_ne (tgt := 58) C.1 C.2.1 dX8_termOf_51 (by decide) (fun cn => ?_) (fun cn => ?_)
        · have ev_59 := if_f' cn ev_59
          refine lv_iconst (v := 0) C.1 C.2.1 dX8_termOf_58 (by decide) ?_
          subst ev_59
          exact KP_59
        · have ev_59 := if_t' cn ev_59
          refine lv_iconst (v := 1) C.1 C.2.1 dX8_termOf_54 (by decide) ?_
          refine lv_goto (tgt := 59) C.1 C.2.1 dX8_termOf_55 (by decide) ?_
          subst ev_59
          exact KP_59
      refine lv_icmp_eq (tgt := 38) C.1 C.2.1 dX8_termOf_19 (by decide) (fun cn => ?_) (fun cn => ?_)
      · have hs := if_t cn hs
        exact KJ_38 _ _ _ _ hs hI (lv_sub hl [0, 1, 2] rfl)
      · have hs := if_f cn hs
        refine lv_aload_n C.1 C.2.1 dX8_termOf_22 rfl (lv_at hl 0 rfl) ?_
        refine lv_aload_n C.1 C.2.1 dX8_termOf_23 rfl (lv_at hl 0 rfl) ?_
        refine mg_29 C hI dX8_termOf_24 ?_
        obtain ⟨r_27, hc, hs⟩ := bd_e hs
        refine M_call C hI (kX8_codeAt l D cy q _ _ _ _ _ _ hc) ml_X8_243 im_X8_codeAt se_X8_codeAt ini_X8 co_X8_codeAt hyX8_codeAt rfl ⟨by omega, by decide⟩ hl.1 rfl (Nat.le_of_ble_eq_true rfl) dX8_termOf_27 (fun H locs hI => ?_)
        refine lv_bipush (v := 47) C.1 C.2.1 dX8_termOf_30 (by decide) ?_
        obtain ⟨r_32, hc, hs⟩ := bd_e hs
        refine S_call (h := (hd + 2)) C (kX8_sign l _ _ hc) ml_X8_215 st_X8_sign ini_X8 co_X8_sign hyX8_sign rfl ⟨by omega, by decide⟩ hl.1 rfl (Nat.le_of_ble_eq_true rfl) dX8_termOf_32 ⟨Nat.le_refl 0, Nat.le_refl 0, Nat.le_refl _, Nat.le_refl _⟩ ?_
        refine lv_icmp_ne (tgt := 138) C.1 C.2.1 dX8_termOf_35 (by decide) (fun cn => ?_) (fun cn => ?_)
        · have hs := if_f cn hs
          have eo := (Option.some.inj hs).symm
          exact kk0 _ _ _ _ _ eo hI (lv_sub hl [2] rfl)
        · have hs := if_t cn hs
          exact KJ_38 _ _ _ _ hs hI (lv_sub hl [0, 1, 2] rfl)
  obtain ⟨⟨x2_6, I_L⟩, hL, hs⟩ := bd_e hs
  refine KL_6 FU _ _ _ _ _ _ _ _ _ _ _ hL hI (lv_sub hl [1, 2, 0] rfl) (fun z0 z1 H locs ls eo hI hl => ?_)
  obtain ⟨rfl, rfl⟩ := pr2 eo
  refine lv_lload_n C.1 C.2.1 dX8_termOf_138 rfl (lv_at hl 0 rfl) ?_
  obtain ⟨rfl, rfl⟩ := so2 hs
  exact M_lret C hI dX8_termOf_139

def lX8_sumOf_6 (rs : Int32 → (Nat → Int32) → (Nat → Int64) → (Nat → Nat → Int32) → (Nat → Nat → Int64) → Option (Int64 × (Nat → Int32))) : Nat → Int32 → Int64 → (Nat → Int32) → (Nat → Int64) → (Nat → Nat → Int32) → (Nat → Nat → Int64) → Option (Int64 × (Nat → Int32))
  | 0, _, _, _, _, _, _ => none
  | n + 1, x1, x2, I, J, A, B =>
    (sX8_codeAt (I 29) I J A B).bind fun r_11 =>
    (sX8_sign (43 : Int32)).bind fun r_16 =>
    gv (fun (I : Nat → Int32) =>
    (sX8_codeAt (I 29) I J A B).bind fun r_43 =>
    (sX8_sign (43 : Int32)).bind fun r_48 =>
    gv (if r_43 = r_48 then (1 : Int32) else (0 : Int32)) fun v_59 =>
    gv (upd I 29 ((I 29) + (1 : Int32))) fun I =>
    (sX8_termOf_F rs x1 I J A B).bind fun (r_73, I) =>
    gv (if v_59 = 0 then (x2 - r_73) else (x2 + r_73)) fun v_95 =>
    (sX8_bounded v_95 x1 I J A B).bind fun (r_96, I) =>
    lX8_sumOf_6 rs n x1 r_96 I J A B) fun k_38 =>
    if r_11 = r_16 then
    (k_38 I)
    else
    (sX8_codeAt (I 29) I J A B).bind fun r_27 =>
    (sX8_sign (45 : Int32)).bind fun r_32 =>
    if r_27 = r_32 then
    (k_38 I)
    else
    some (x2, I)
def sX8_sumOf_F (rs : Int32 → (Nat → Int32) → (Nat → Int64) → (Nat → Nat → Int32) → (Nat → Nat → Int64) → Option (Int64 × (Nat → Int32))) (x1 : Int32) (I : Nat → Int32) (J : Nat → Int64) (A : Nat → Nat → Int32) (B : Nat → Nat → Int64) : Option ((Int64) × (Nat → Int32)) :=
(sX8_termOf_F rs x1 I J A B).bind fun (r_2, I) =>
(lX8_sumOf_6 rs FU x1 r_2 I J A B).bind fun (x2_6, I) =>
some (x2_6, I)
set_option maxRecDepth 100000 in
set_option maxHeartbeats 8000000 in
theorem kX8_sumOf_F (l : Launch) (D : va_G) (cy : Nat → ClassId) (q : Nat → Nat) (hd : Nat) (hh : 4 ≤ hd) (rs : Int32 → (Nat → Int32) → (Nat → Int64) → (Nat → Nat → Int32) → (Nat → Nat → Int64) → Option (Int64 × (Nat → Int32))) (hrec : ∀ (z0 : Int32) (I : Nat → Int32) (J : Nat → Int64) (A : Nat → Nat → Int32) (B : Nat → Nat → Int64) (r : Int64) (I2 : Nat → Int32), rs z0 I J A B = some (r, I2) → McI l yX8_sumOf cX8_sumOf 7 (some .long) hd [.ref (q 46), .int z0] D cy q I J A B (some (.long r)) I2 J A B) (x1 : Int32) (I : Nat → Int32) (J : Nat → Int64) (A : Nat → Nat → Int32) (B : Nat → Nat → Int64) (r : Int64) (I2 : Nat → Int32) (hs : sX8_sumOf_F rs x1 I J A B = some (r, I2)) : McI l yX8_sumOf cX8_sumOf 7 (some .long) (hd + 3) [.ref (q 46), .int x1] D cy q I J A B (some (.long r)) I2 J A B := by
  refine M_start rfl rfl (Nat.le_of_ble_eq_true rfl) ?_
  intro p e s m args below meth c H locs C hI ls hl
  have hl : lv_has ls 7 [(0, .ref (q 46)), (1, .int x1)] := hl
  rw [sX8_sumOf_F] at hs
  refine lv_aload_n C.1 C.2.1 dX8_sumOf_0 rfl (lv_at hl 0 rfl) ?_
  refine lv_iload_n C.1 C.2.1 dX8_sumOf_1 rfl (lv_at hl 1 rfl) ?_
  obtain ⟨⟨r_2, I⟩, hc, hs⟩ := bd_e hs
  refine M_call C hI (kX8_termOf_F l D cy q hd hh rs hrec _ _ _ _ _ _ _ hc) ml_X8_254 im_X8_termOf se_X8_termOf ini_X8 co_X8_termOf hyX8_termOf rfl ⟨by omega, by decide⟩ hl.1 rfl (Nat.le_of_ble_eq_true rfl) dX8_sumOf_2 (fun H locs hI => ?_)
  refine lv_lstore_n (lv' := [(2, .long r_2), (0, .ref (q 46)), (1, .int x1)]) C.1 C.2.1 dX8_sumOf_5 rfl hl (by decide) rfl (fun ls hl => ?_)
  have KL_6 : ∀ (n : Nat) (x1 : Int32) (x2 : Int64) (I : Nat → Int32) (J : Nat → Int64) (A : Nat → Nat → Int32) (B : Nat → Nat → Int64) (o : Int64 × (Nat → Int32)) (Q : State → Prop) (H : Heap) (locs : List Loc) (ls : Array Slot), lX8_sumOf_6 rs n x1 x2 I J A B = some o → MI D cy s s.heap H locs q I J A B → lv_has ls 7 [(0, .ref (q 46)), (1, .int x1), (2, .long x2)] → (∀ (o2_0 : Int64) (I_0 : Nat → Int32) (H : Heap) (locs : List Loc) (ls : Array Slot), o = (o2_0, I_0) → MI D cy s s.heap H locs q I_0 J A B → lv_has ls 7 [(2, .long o2_0)] → W p l e (rmL (hd + 3)) s m args below meth c H locs 0 0 Q (F0 m 103 ls [])) → W p l e (rmL (hd + 3)) s m args below meth c H locs 0 0 Q (F0 m 6 ls []) := by
    intro n; induction n with
    | zero => intro x1 x2 I J A B o Q H locs ls hs; rw [lX8_sumOf_6] at hs; cases hs
    | succ n ih =>
      intro x1 x2 I J A B o Q H locs ls hs hI hl kk0
      rw [lX8_sumOf_6] at hs
      refine lv_aload_n C.1 C.2.1 dX8_sumOf_6 rfl (lv_at hl 0 rfl) ?_
      refine lv_aload_n C.1 C.2.1 dX8_sumOf_7 rfl (lv_at hl 0 rfl) ?_
      refine mg_29 C hI dX8_sumOf_8 ?_
      obtain ⟨r_11, hc, hs⟩ := bd_e hs
      refine M_call C hI (kX8_codeAt l D cy q _ _ _ _ _ _ hc) ml_X8_243 im_X8_codeAt se_X8_codeAt ini_X8 co_X8_codeAt hyX8_codeAt rfl ⟨by omega, by decide⟩ hl.1 rfl (Nat.le_of_ble_eq_true rfl) dX8_sumOf_11 (fun H locs hI => ?_)
      refine lv_bipush (v := 43) C.1 C.2.1 dX8_sumOf_14 (by decide) ?_
      obtain ⟨r_16, hc, hs⟩ := bd_e hs
      refine S_call (h := (hd + 3)) C (kX8_sign l _ _ hc) ml_X8_215 st_X8_sign ini_X8 co_X8_sign hyX8_sign rfl ⟨by omega, by decide⟩ hl.1 rfl (Nat.le_of_ble_eq_true rfl) dX8_sumOf_16 ⟨Nat.le_refl 0, Nat.le_refl 0, Nat.le_refl _, Nat.le_refl _⟩ ?_
      obtain ⟨k_38, ek_38, hs⟩ := gv_ex hs
      have KJ_38 : ∀ (I : Nat → Int32) (H : Heap) (locs : List Loc) (ls : Array Slot), k_38 I = some o → MI D cy s s.heap H locs q I J A B → lv_has ls 7 [(0, .ref (q 46)), (1, .int x1), (2, .long x2)] → W p l e (rmL (hd + 3)) s m args below meth c H locs 0 0 Q (F0 m 38 ls []) := by
        intro I H locs ls hs hI hl
        rw [ek_38] at hs
        refine lv_aload_n C.1 C.2.1 dX8_sumOf_38 rfl (lv_at hl 0 rfl) ?_
        refine lv_aload_n C.1 C.2.1 dX8_sumOf_39 rfl (lv_at hl 0 rfl) ?_
        refine mg_29 C hI dX8_sumOf_40 ?_
        obtain ⟨r_43, hc, hs⟩ := bd_e hs
        refine M_call C hI (kX8_codeAt l D cy q _ _ _ _ _ _ hc) ml_X8_243 im_X8_codeAt se_X8_codeAt ini_X8 co_X8_codeAt hyX8_codeAt rfl ⟨by omega, by decide⟩ hl.1 rfl (Nat.le_of_ble_eq_true rfl) dX8_sumOf_43 (fun H locs hI => ?_)
        refine lv_bipush (v := 43) C.1 C.2.1 dX8_sumOf_46 (by decide) ?_
        obtain ⟨r_48, hc, hs⟩ := bd_e hs
        refine S_call (h := (hd + 3)) C (kX8_sign l _ _ hc) ml_X8_215 st_X8_sign ini_X8 co_X8_sign hyX8_sign rfl ⟨by omega, by decide⟩ hl.1 rfl (Nat.le_of_ble_eq_true rfl) dX8_sumOf_48 ⟨Nat.le_refl 0, Nat.le_refl 0, Nat.le_refl _, Nat.le_refl _⟩ ?_
        obtain ⟨v_59, ev_59, hs⟩ := gv_ex hs
        have KP_59 : W p l e (rmL (hd + 3)) s m args below meth c H locs 0 0 Q (F0 m 59 ls [.int v_59]) := by
          refine lv_istore (lv' := [(4, .int v_59), (0, .ref (q 46)), (1, .int x1), (2, .long x2)]) C.1 C.2.1 dX8_sumOf_59 hl (by decide) rfl (fun ls hl => ?_)
          refine lv_aload_n C.1 C.2.1 dX8_sumOf_61 rfl (lv_at hl 1 rfl) ?_
          refine lv_dup C.1 C.2.1 dX8_sumOf_62 rfl ?_
          refine mg_29 C hI dX8_sumOf_63 ?_
          refine lv_iconst (v := 1) C.1 C.2.1 dX8_sumOf_66 (by decide) ?_
          refine lv_iadd C.1 C.2.1 dX8_sumOf_67 ?_
          refine mp_29 C hI dX8_sumOf_68 (fun H locs hI => ?_)
          have hs := gv_be hs
          refine lv_aload_n C.1 C.2.1 dX8_sumOf_71 rfl (lv_at hl 1 rfl) ?_
          refine lv_iload_n C.1 C.2.1 dX8_sumOf_72 rfl (lv_at hl 2 rfl) ?_
          obtain ⟨⟨r_73, I⟩, hc, hs⟩ := bd_e hs
          refine M_call C hI (kX8_termOf_F l D cy q hd hh rs hrec _ _ _ _ _ _ _ hc) ml_X8_254 im_X8_termOf se_X8_termOf ini_X8 co_X8_termOf hyX8_termOf rfl ⟨by omega, by decide⟩ hl.1 rfl (Nat.le_of_ble_eq_true rfl) dX8_sumOf_73 (fun H locs hI => ?_)
          refine lv_lstore (lv' := [(5, .long r_73), (4, .int v_59), (0, .ref (q 46)), (1, .int x1), (2, .long x2)]) C.1 C.2.1 dX8_sumOf_76 hl (by decide) rfl (fun ls hl => ?_)
          refine lv_aload_n C.1 C.2.1 dX8_sumOf_78 rfl (lv_at hl 2 rfl) ?_
          refine lv_iload C.1 C.2.1 dX8_sumOf_79 (lv_at hl 1 rfl) ?_
          obtain ⟨v_95, ev_95, hs⟩ := gv_ex hs
          have KP_95 : W p l e (rmL (hd + 3)) s m args below meth c H locs 0 0 Q (F0 m 95 ls [.long v_95, .ref (q 46)]) := by
            refine lv_iload_n C.1 C.2.1 dX8_sumOf_95 rfl (lv_at hl 3 rfl) ?_
            obtain ⟨⟨r_96, I⟩, hc, hs⟩ := bd_e hs
            refine M_call C hI (kX8_bounded l D cy q _ _ _ _ _ _ _ _ hc) ml_X8_258 im_X8_bounded se_X8_bounded ini_X8 co_X8_bounded hyX8_bounded rfl ⟨by omega, by decide⟩ hl.1 rfl (Nat.le_of_ble_eq_true rfl) dX8_sumOf_96 (fun H locs hI => ?_)
            refine lv_lstore_n (lv' := [(2, .long r_96), (5, .long r_73), (4, .int v_59), (0, .ref (q 46)), (1, .int x1)]) C.1 C.2.1 dX8_sumOf_99 rfl hl (by decide) rfl (fun ls hl => ?_)
            refine lv_goto (tgt := 6) C.1 C.2.1 dX8_sumOf_100 (by decide) ?_
            exact ih _ _ _ _ _ _ _ _ _ _ _ hs hI (lv_sub hl [3, 4, 0] rfl) kk0
          refine lv_if_eq (tgt := 91) C.1 C.2.1 dX8_sumOf_81 (by decide) (fun cn => ?_) (fun cn => ?_)
          · have ev_95 := if_t' cn ev_95
            refine lv_lload_n C.1 C.2.1 dX8_sumOf_91 rfl (lv_at hl 4 rfl) ?_
            refine lv_lload C.1 C.2.1 dX8_sumOf_92 (lv_at hl 0 rfl) ?_
            refine lv_lsub C.1 C.2.1 dX8_sumOf_94 ?_
            subst ev_95
            exact KP_95
          · have ev_95 := if_f' cn ev_95
            refine lv_lload_n C.1 C.2.1 dX8_sumOf_84 rfl (lv_at hl 4 rfl) ?_
            refine lv_lload C.1 C.2.1 dX8_sumOf_85 (lv_at hl 0 rfl) ?_
            refine lv_ladd C.1 C.2.1 dX8_sumOf_87 ?_
            refine lv_goto (tgt := 95) C.1 C.2.1 dX8_sumOf_88 (by decide) ?_
            subst ev_95
            exact KP_95
        refine lv_icmp_ne (tgt := 58) C.1 C.2.1 dX8_sumOf_51 (by decide) (fun cn => ?_) (fun cn => ?_)
        · have ev_59 := if_f' cn ev_59
          refine lv_iconst (v := 0) C.1 C.2.1 dX8_sumOf_58 (by decide) ?_
          subst ev_59
          exact KP_59
        · have ev_59 := if_t' cn ev_59
          refine lv_iconst (v := 1) C.1 C.2.1 dX8_sumOf_54 (by decide) ?_
          refine lv_goto (tgt := 59) C.1 C.2.1 dX8_sumOf_55 (by decide) ?_
          subst ev_59
          exact KP_59
      refine lv_icmp_eq (tgt := 38) C.1 C.2.1 dX8_sumOf_19 (by decide) (fun cn => ?_) (fun cn => ?_)
      · have hs := if_t cn hs
        exact KJ_38 _ _ _ _ hs hI (lv_sub hl [0, 1, 2] rfl)
      · have hs := if_f cn hs
        refine lv_aload_n C.1 C.2.1 dX8_sumOf_22 rfl (lv_at hl 0 rfl) ?_
        refine lv_aload_n C.1 C.2.1 dX8_sumOf_23 rfl (lv_at hl 0 rfl) ?_
        refine mg_29 C hI dX8_sumOf_24 ?_
        obtain ⟨r_27, hc, hs⟩ := bd_e hs
        refine M_call C hI (kX8_codeAt l D cy q _ _ _ _ _ _ hc) ml_X8_243 im_X8_codeAt se_X8_codeAt ini_X8 co_X8_codeAt hyX8_codeAt rfl ⟨by omega, by decide⟩ hl.1 rfl (Nat.le_of_ble_eq_true rfl) dX8_sumOf_27 (fun H locs hI => ?_)
        refine lv_bipush (v := 45) C.1 C.2.1 dX8_sumOf_30 (by decide) ?_
        obtain ⟨r_32, hc, hs⟩ := bd_e hs
        refine S_call (h := (hd + 3)) C (kX8_sign l _ _ hc) ml_X8_215 st_X8_sign ini_X8 co_X8_sign hyX8_sign rfl ⟨by omega, by decide⟩ hl.1 rfl (Nat.le_of_ble_eq_true rfl) dX8_sumOf_32 ⟨Nat.le_refl 0, Nat.le_refl 0, Nat.le_refl _, Nat.le_refl _⟩ ?_
        refine lv_icmp_ne (tgt := 103) C.1 C.2.1 dX8_sumOf_35 (by decide) (fun cn => ?_) (fun cn => ?_)
        · have hs := if_f cn hs
          have eo := (Option.some.inj hs).symm
          exact kk0 _ _ _ _ _ eo hI (lv_sub hl [2] rfl)
        · have hs := if_t cn hs
          exact KJ_38 _ _ _ _ hs hI (lv_sub hl [0, 1, 2] rfl)
  obtain ⟨⟨x2_6, I_L⟩, hL, hs⟩ := bd_e hs
  refine KL_6 FU _ _ _ _ _ _ _ _ _ _ _ hL hI (lv_sub hl [1, 2, 0] rfl) (fun z0 z1 H locs ls eo hI hl => ?_)
  obtain ⟨rfl, rfl⟩ := pr2 eo
  refine lv_lload_n C.1 C.2.1 dX8_sumOf_103 rfl (lv_at hl 0 rfl) ?_
  obtain ⟨rfl, rfl⟩ := so2 hs
  exact M_lret C hI dX8_sumOf_104
def sX8_sumOf : Nat → Int32 → (Nat → Int32) → (Nat → Int64) → (Nat → Nat → Int32) → (Nat → Nat → Int64) → Option ((Int64) × (Nat → Int32))
  | 0, _, _, _, _, _ => none
  | d + 1, x1, I, J, A, B => sX8_sumOf_F (sX8_sumOf d) x1 I J A B
theorem kX8_sumOf (l : Launch) (D : va_G) (cy : Nat → ClassId) (q : Nat → Nat) (d : Nat) : ∀ (x1 : Int32) (I : Nat → Int32) (J : Nat → Int64) (A : Nat → Nat → Int32) (B : Nat → Nat → Int64) (r : Int64) (I2 : Nat → Int32), sX8_sumOf d x1 I J A B = some (r, I2) → McI l yX8_sumOf cX8_sumOf 7 (some .long) (4 + 3 * d) [.ref (q 46), .int x1] D cy q I J A B (some (.long r)) I2 J A B := by
  induction d with
  | zero => intro x1 I J A B r I2 hs; rw [sX8_sumOf] at hs; cases hs
  | succ d ih =>
    intro x1 I J A B r I2 hs
    rw [sX8_sumOf] at hs
    have e : 4 + 3 * (d + 1) = (4 + 3 * d) + 3 := by omega
    rw [e]
    exact kX8_sumOf_F l D cy q (4 + 3 * d) (by omega) (sX8_sumOf d) ih x1 I J A B r I2 hs

def sX8_positiveOf_F (rs : Int32 → (Nat → Int32) → (Nat → Int64) → (Nat → Nat → Int32) → (Nat → Nat → Int64) → Option (Int32 × (Nat → Int32))) (x1 : Int32) (I : Nat → Int32) (J : Nat → Int64) (A : Nat → Nat → Int32) (B : Nat → Nat → Int64) : Option ((Int32) × (Nat → Int32)) :=
(sX8_sign (40 : Int32)).bind fun r_3 =>
(sX8_passes r_3 I J A B).bind fun (r_6, I) =>
if r_6 = 0 then
((sX8_codeAt (I 29) I J A B).bind fun r_35 =>
gv (fun (I : Nat → Int32) =>
(sX8_sumOf 10 x1 I J A B).bind fun (r_92, I) =>
(sX8_codeAt (I 29) I J A B).bind fun r_101 =>
gv (upd I 29 ((I 29) + (1 : Int32))) fun I =>
(sX8_sumOf 10 x1 I J A B).bind fun (r_118, I) =>
if x1 = 0 then
(some ((0 : Int32), I))
else
if (I 31) = 0 then
((sX8_sign (60 : Int32)).bind fun r_138 =>
if r_101 = r_138 then
(if 0 ≤ (lg_cmp r_92 r_118) then
(some ((0 : Int32), I))
else
some ((1 : Int32), I))
else
(sX8_sign (62 : Int32)).bind fun r_158 =>
if r_101 = r_158 then
(if (lg_cmp r_92 r_118) ≤ 0 then
(some ((0 : Int32), I))
else
some ((1 : Int32), I))
else
if (lg_cmp r_92 r_118) = 0 then
(some ((1 : Int32), I))
else
some ((0 : Int32), I))
else
some ((0 : Int32), I)) fun k_90 =>
if r_35 < (8 : Int32) then
(k_90 I)
else
if (11 : Int32) < r_35 then
(k_90 I)
else
gv (upd I 29 ((I 29) + (1 : Int32))) fun I =>
if x1 = 0 then
(some ((0 : Int32), I))
else
if (I 31) = 0 then
(ck (inB (r_35 - (8 : Int32)) 4) <|
if (A 33 (ix (r_35 - (8 : Int32)))) = 0 then
(some ((0 : Int32), I))
else
some ((1 : Int32), I))
else
some ((0 : Int32), I))
else
(rs x1 I J A B).bind fun (r_14, I) =>
gv (upd I 29 ((I 29) + (1 : Int32))) fun I =>
ck (isB r_14) <|
some (r_14, I)
set_option maxRecDepth 100000 in
set_option maxHeartbeats 8000000 in
theorem kX8_positiveOf_F (l : Launch) (D : va_G) (cy : Nat → ClassId) (q : Nat → Nat) (hd : Nat) (hh : 35 ≤ hd) (rs : Int32 → (Nat → Int32) → (Nat → Int64) → (Nat → Nat → Int32) → (Nat → Nat → Int64) → Option (Int32 × (Nat → Int32))) (hrec : ∀ (z0 : Int32) (I : Nat → Int32) (J : Nat → Int64) (A : Nat → Nat → Int32) (B : Nat → Nat → Int64) (r : Int32) (I2 : Nat → Int32), rs z0 I J A B = some (r, I2) → McI l yX8_testOf cX8_testOf 4 (some .boolean) hd [.ref (q 46), .int z0] D cy q I J A B (some (.int r)) I2 J A B) (x1 : Int32) (I : Nat → Int32) (J : Nat → Int64) (A : Nat → Nat → Int32) (B : Nat → Nat → Int64) (r : Int32) (I2 : Nat → Int32) (hs : sX8_positiveOf_F rs x1 I J A B = some (r, I2)) : McI l yX8_positiveOf cX8_positiveOf 8 (some .boolean) (hd + 1) [.ref (q 46), .int x1] D cy q I J A B (some (.int r)) I2 J A B := by
  refine M_start rfl rfl (Nat.le_of_ble_eq_true rfl) ?_
  intro p e s m args below meth c H locs C hI ls hl
  have hl : lv_has ls 8 [(0, .ref (q 46)), (1, .int x1)] := hl
  rw [sX8_positiveOf_F] at hs
  refine lv_aload_n C.1 C.2.1 dX8_positiveOf_0 rfl (lv_at hl 0 rfl) ?_
  refine lv_bipush (v := 40) C.1 C.2.1 dX8_positiveOf_1 (by decide) ?_
  obtain ⟨r_3, hc, hs⟩ := bd_e hs
  refine S_call (h := (hd + 1)) C (kX8_sign l _ _ hc) ml_X8_215 st_X8_sign ini_X8 co_X8_sign hyX8_sign rfl ⟨by omega, by decide⟩ hl.1 rfl (Nat.le_of_ble_eq_true rfl) dX8_positiveOf_3 ⟨Nat.le_refl 0, Nat.le_refl 0, Nat.le_refl _, Nat.le_refl _⟩ ?_
  obtain ⟨⟨r_6, I⟩, hc, hs⟩ := bd_e hs
  refine M_call C hI (kX8_passes l D cy q _ _ _ _ _ _ _ hc) ml_X8_265 im_X8_passes se_X8_passes ini_X8 co_X8_passes hyX8_passes rfl ⟨by omega, by decide⟩ hl.1 rfl (Nat.le_of_ble_eq_true rfl) dX8_positiveOf_6 (fun H locs hI => ?_)
  refine lv_if_eq (tgt := 30) C.1 C.2.1 dX8_positiveOf_9 (by decide) (fun cn => ?_) (fun cn => ?_)
  · have hs := if_t cn hs
    refine lv_aload_n C.1 C.2.1 dX8_positiveOf_30 rfl (lv_at hl 0 rfl) ?_
    refine lv_aload_n C.1 C.2.1 dX8_positiveOf_31 rfl (lv_at hl 0 rfl) ?_
    refine mg_29 C hI dX8_positiveOf_32 ?_
    obtain ⟨r_35, hc, hs⟩ := bd_e hs
    refine M_call C hI (kX8_codeAt l D cy q _ _ _ _ _ _ hc) ml_X8_243 im_X8_codeAt se_X8_codeAt ini_X8 co_X8_codeAt hyX8_codeAt rfl ⟨by omega, by decide⟩ hl.1 rfl (Nat.le_of_ble_eq_true rfl) dX8_positiveOf_35 (fun H locs hI => ?_)
    refine lv_istore_n (lv' := [(2, .int r_35), (0, .ref (q 46)), (1, .int x1)]) C.1 C.2.1 dX8_positiveOf_38 rfl hl (by decide) rfl (fun ls hl => ?_)
    refine lv_iload_n C.1 C.2.1 dX8_positiveOf_39 rfl (lv_at hl 0 rfl) ?_
    refine lv_bipush (v := 8) C.1 C.2.1 dX8_positiveOf_40 (by decide) ?_
    obtain ⟨k_90, ek_90, hs⟩ := gv_ex hs
    have KJ_90 : ∀ (I : Nat → Int32) (H : Heap) (locs : List Loc) (ls : Array Slot), k_90 I = some (r, I2) → MI D cy s s.heap H locs q I J A B → lv_has ls 8 [(0, .ref (q 46)), (1, .int x1)] → W p l e (rmL (hd + 1)) s m args below meth c H locs 0 0 (MQ below (mQ D cy q (some (.int r)) I2 J A B) args s 0 0 (MA q)) (F0 m 90 ls []) := by
      intro I H locs ls hs hI hl
      rw [ek_90] at hs
      refine lv_aload_n C.1 C.2.1 dX8_positiveOf_90 rfl (lv_at hl 0 rfl) ?_
      refine lv_iload_n C.1 C.2.1 dX8_positiveOf_91 rfl (lv_at hl 1 rfl) ?_
      obtain ⟨⟨r_92, I⟩, hc, hs⟩ := bd_e hs
      refine M_call C hI (kX8_sumOf l D cy q 10 _ _ _ _ _ _ _ hc) ml_X8_268 im_X8_sumOf se_X8_sumOf ini_X8 co_X8_sumOf hyX8_sumOf rfl ⟨by omega, by decide⟩ hl.1 rfl (Nat.le_of_ble_eq_true rfl) dX8_positiveOf_92 (fun H locs hI => ?_)
      refine lv_lstore_n (lv' := [(3, .long r_92), (0, .ref (q 46)), (1, .int x1)]) C.1 C.2.1 dX8_positiveOf_95 rfl hl (by decide) rfl (fun ls hl => ?_)
      refine lv_aload_n C.1 C.2.1 dX8_positiveOf_96 rfl (lv_at hl 1 rfl) ?_
      refine lv_aload_n C.1 C.2.1 dX8_positiveOf_97 rfl (lv_at hl 1 rfl) ?_
      refine mg_29 C hI dX8_positiveOf_98 ?_
      obtain ⟨r_101, hc, hs⟩ := bd_e hs
      refine M_call C hI (kX8_codeAt l D cy q _ _ _ _ _ _ hc) ml_X8_243 im_X8_codeAt se_X8_codeAt ini_X8 co_X8_codeAt hyX8_codeAt rfl ⟨by omega, by decide⟩ hl.1 rfl (Nat.le_of_ble_eq_true rfl) dX8_positiveOf_101 (fun H locs hI => ?_)
      refine lv_istore (lv' := [(5, .int r_101), (3, .long r_92), (0, .ref (q 46)), (1, .int x1)]) C.1 C.2.1 dX8_positiveOf_104 hl (by decide) rfl (fun ls hl => ?_)
      refine lv_aload_n C.1 C.2.1 dX8_positiveOf_106 rfl (lv_at hl 2 rfl) ?_
      refine lv_dup C.1 C.2.1 dX8_positiveOf_107 rfl ?_
      refine mg_29 C hI dX8_positiveOf_108 ?_
      refine lv_iconst (v := 1) C.1 C.2.1 dX8_positiveOf_111 (by decide) ?_
      refine lv_iadd C.1 C.2.1 dX8_positiveOf_112 ?_
      refine mp_29 C hI dX8_positiveOf_113 (fun H locs hI => ?_)
      have hs := gv_be hs
      refine lv_aload_n C.1 C.2.1 dX8_positiveOf_116 rfl (lv_at hl 2 rfl) ?_
      refine lv_iload_n C.1 C.2.1 dX8_positiveOf_117 rfl (lv_at hl 3 rfl) ?_
      obtain ⟨⟨r_118, I⟩, hc, hs⟩ := bd_e hs
      refine M_call C hI (kX8_sumOf l D cy q 10 _ _ _ _ _ _ _ hc) ml_X8_268 im_X8_sumOf se_X8_sumOf ini_X8 co_X8_sumOf hyX8_sumOf rfl ⟨by omega, by decide⟩ hl.1 rfl (Nat.le_of_ble_eq_true rfl) dX8_positiveOf_118 (fun H locs hI => ?_)
      refine lv_lstore (lv' := [(6, .long r_118), (5, .int r_101), (3, .long r_92), (0, .ref (q 46)), (1, .int x1)]) C.1 C.2.1 dX8_positiveOf_121 hl (by decide) rfl (fun ls hl => ?_)
      refine lv_iload_n C.1 C.2.1 dX8_positiveOf_123 rfl (lv_at hl 4 rfl) ?_
      refine lv_if_eq (tgt := 185) C.1 C.2.1 dX8_positiveOf_124 (by decide) (fun cn => ?_) (fun cn => ?_)
      · have hs := if_t cn hs
        refine lv_iconst (v := 0) C.1 C.2.1 dX8_positiveOf_185 (by decide) ?_
        obtain ⟨rfl, rfl⟩ := so2 hs
        exact M_zret C hI (by decide) dX8_positiveOf_186
      · have hs := if_f cn hs
        refine lv_aload_n C.1 C.2.1 dX8_positiveOf_127 rfl (lv_at hl 3 rfl) ?_
        refine mg_31 C hI dX8_positiveOf_128 ?_
        refine lv_if_ne (tgt := 185) C.1 C.2.1 dX8_positiveOf_131 (by decide) (fun cn => ?_) (fun cn => ?_)
        · have hs := if_f cn hs
          refine lv_iconst (v := 0) C.1 C.2.1 dX8_positiveOf_185 (by decide) ?_
          obtain ⟨rfl, rfl⟩ := so2 hs
          exact M_zret C hI (by decide) dX8_positiveOf_186
        · have hs := if_t cn hs
          refine lv_iload C.1 C.2.1 dX8_positiveOf_134 (lv_at hl 1 rfl) ?_
          refine lv_bipush (v := 60) C.1 C.2.1 dX8_positiveOf_136 (by decide) ?_
          obtain ⟨r_138, hc, hs⟩ := bd_e hs
          refine S_call (h := (hd + 1)) C (kX8_sign l _ _ hc) ml_X8_215 st_X8_sign ini_X8 co_X8_sign hyX8_sign rfl ⟨by omega, by decide⟩ hl.1 rfl (Nat.le_of_ble_eq_true rfl) dX8_positiveOf_138 ⟨Nat.le_refl 0, Nat.le_refl 0, Nat.le_refl _, Nat.le_refl _⟩ ?_
          refine lv_icmp_ne (tgt := 154) C.1 C.2.1 dX8_positiveOf_141 (by decide) (fun cn => ?_) (fun cn => ?_)
          · have hs := if_f cn hs
            refine lv_iload C.1 C.2.1 dX8_positiveOf_154 (lv_at hl 1 rfl) ?_
            refine lv_bipush (v := 62) C.1 C.2.1 dX8_positiveOf_156 (by decide) ?_
            obtain ⟨r_158, hc, hs⟩ := bd_e hs
            refine S_call (h := (hd + 1)) C (kX8_sign l _ _ hc) ml_X8_215 st_X8_sign ini_X8 co_X8_sign hyX8_sign rfl ⟨by omega, by decide⟩ hl.1 rfl (Nat.le_of_ble_eq_true rfl) dX8_positiveOf_158 ⟨Nat.le_refl 0, Nat.le_refl 0, Nat.le_refl _, Nat.le_refl _⟩ ?_
            refine lv_icmp_ne (tgt := 174) C.1 C.2.1 dX8_positiveOf_161 (by decide) (fun cn => ?_) (fun cn => ?_)
            · have hs := if_f cn hs
              refine lv_lload_n C.1 C.2.1 dX8_positiveOf_174 rfl (lv_at hl 2 rfl) ?_
              refine lv_lload C.1 C.2.1 dX8_positiveOf_175 (lv_at hl 0 rfl) ?_
              refine W.lcmp C.1 C.2.1 dX8_positiveOf_177 ?_
              refine lv_if_ne (tgt := 185) C.1 C.2.1 dX8_positiveOf_178 (by decide) (fun cn => ?_) (fun cn => ?_)
              · have hs := if_f cn hs
                refine lv_iconst (v := 0) C.1 C.2.1 dX8_positiveOf_185 (by decide) ?_
                obtain ⟨rfl, rfl⟩ := so2 hs
                exact M_zret C hI (by decide) dX8_positiveOf_186
              · have hs := if_t cn hs
                refine lv_iconst (v := 1) C.1 C.2.1 dX8_positiveOf_181 (by decide) ?_
                refine lv_goto (tgt := 186) C.1 C.2.1 dX8_positiveOf_182 (by decide) ?_
                obtain ⟨rfl, rfl⟩ := so2 hs
                exact M_zret C hI (by decide) dX8_positiveOf_186
            · have hs := if_t cn hs
              refine lv_lload_n C.1 C.2.1 dX8_positiveOf_164 rfl (lv_at hl 2 rfl) ?_
              refine lv_lload C.1 C.2.1 dX8_positiveOf_165 (lv_at hl 0 rfl) ?_
              refine W.lcmp C.1 C.2.1 dX8_positiveOf_167 ?_
              refine lv_if_le (tgt := 185) C.1 C.2.1 dX8_positiveOf_168 (by decide) (fun cn => ?_) (fun cn => ?_)
              · have hs := if_t cn hs
                refine lv_iconst (v := 0) C.1 C.2.1 dX8_positiveOf_185 (by decide) ?_
                obtain ⟨rfl, rfl⟩ := so2 hs
                exact M_zret C hI (by decide) dX8_positiveOf_186
              · have hs := if_f cn hs
                refine lv_goto (tgt := 181) C.1 C.2.1 dX8_positiveOf_171 (by decide) ?_
                refine lv_iconst (v := 1) C.1 C.2.1 dX8_positiveOf_181 (by decide) ?_
                refine lv_goto (tgt := 186) C.1 C.2.1 dX8_positiveOf_182 (by decide) ?_
                obtain ⟨rfl, rfl⟩ := so2 hs
                exact M_zret C hI (by decide) dX8_positiveOf_186
          · have hs := if_t cn hs
            refine lv_lload_n C.1 C.2.1 dX8_positiveOf_144 rfl (lv_at hl 2 rfl) ?_
            refine lv_lload C.1 C.2.1 dX8_positiveOf_145 (lv_at hl 0 rfl) ?_
            refine W.lcmp C.1 C.2.1 dX8_positiveOf_147 ?_
            refine lv_if_ge (tgt := 185) C.1 C.2.1 dX8_positiveOf_148 (by decide) (fun cn => ?_) (fun cn => ?_)
            · have hs := if_t cn hs
              refine lv_iconst (v := 0) C.1 C.2.1 dX8_positiveOf_185 (by decide) ?_
              obtain ⟨rfl, rfl⟩ := so2 hs
              exact M_zret C hI (by decide) dX8_positiveOf_186
            · have hs := if_f cn hs
              refine lv_goto (tgt := 181) C.1 C.2.1 dX8_positiveOf_151 (by decide) ?_
              refine lv_iconst (v := 1) C.1 C.2.1 dX8_positiveOf_181 (by decide) ?_
              refine lv_goto (tgt := 186) C.1 C.2.1 dX8_positiveOf_182 (by decide) ?_
              obtain ⟨rfl, rfl⟩ := so2 hs
              exact M_zret C hI (by decide) dX8_positiveOf_186
    refine lv_icmp_lt (tgt := 90) C.1 C.2.1 dX8_positiveOf_42 (by decide) (fun cn => ?_) (fun cn => ?_)
    · have hs := if_t cn hs
      exact KJ_90 _ _ _ _ hs hI (lv_sub hl [1, 2] rfl)
    · have hs := if_f cn hs
      refine lv_iload_n C.1 C.2.1 dX8_positiveOf_45 rfl (lv_at hl 0 rfl) ?_
      refine lv_bipush (v := 11) C.1 C.2.1 dX8_positiveOf_46 (by decide) ?_
      refine lv_icmp_gt (tgt := 90) C.1 C.2.1 dX8_positiveOf_48 (by decide) (fun cn => ?_) (fun cn => ?_)
      · have hs := if_t cn hs
        exact KJ_90 _ _ _ _ hs hI (lv_sub hl [1, 2] rfl)
      · have hs := if_f cn hs
        refine lv_aload_n C.1 C.2.1 dX8_positiveOf_51 rfl (lv_at hl 1 rfl) ?_
        refine lv_dup C.1 C.2.1 dX8_positiveOf_52 rfl ?_
        refine mg_29 C hI dX8_positiveOf_53 ?_
        refine lv_iconst (v := 1) C.1 C.2.1 dX8_positiveOf_56 (by decide) ?_
        refine lv_iadd C.1 C.2.1 dX8_positiveOf_57 ?_
        refine mp_29 C hI dX8_positiveOf_58 (fun H locs hI => ?_)
        have hs := gv_be hs
        refine lv_iload_n C.1 C.2.1 dX8_positiveOf_61 rfl (lv_at hl 2 rfl) ?_
        refine lv_if_eq (tgt := 88) C.1 C.2.1 dX8_positiveOf_62 (by decide) (fun cn => ?_) (fun cn => ?_)
        · have hs := if_t cn hs
          refine lv_iconst (v := 0) C.1 C.2.1 dX8_positiveOf_88 (by decide) ?_
          obtain ⟨rfl, rfl⟩ := so2 hs
          exact M_zret C hI (by decide) dX8_positiveOf_89
        · have hs := if_f cn hs
          refine lv_aload_n C.1 C.2.1 dX8_positiveOf_65 rfl (lv_at hl 1 rfl) ?_
          refine mg_31 C hI dX8_positiveOf_66 ?_
          refine lv_if_ne (tgt := 88) C.1 C.2.1 dX8_positiveOf_69 (by decide) (fun cn => ?_) (fun cn => ?_)
          · have hs := if_f cn hs
            refine lv_iconst (v := 0) C.1 C.2.1 dX8_positiveOf_88 (by decide) ?_
            obtain ⟨rfl, rfl⟩ := so2 hs
            exact M_zret C hI (by decide) dX8_positiveOf_89
          · have hs := if_t cn hs
            refine lv_aload_n C.1 C.2.1 dX8_positiveOf_72 rfl (lv_at hl 1 rfl) ?_
            refine mg_33 C hI dX8_positiveOf_73 ?_
            refine lv_iload_n C.1 C.2.1 dX8_positiveOf_76 rfl (lv_at hl 0 rfl) ?_
            refine lv_bipush (v := 8) C.1 C.2.1 dX8_positiveOf_77 (by decide) ?_
            refine lv_isub C.1 C.2.1 dX8_positiveOf_79 ?_
            obtain ⟨hk, hs⟩ := ck_e hs
            refine ma_33 C hI hk dX8_positiveOf_80 ?_
            refine lv_if_eq (tgt := 88) C.1 C.2.1 dX8_positiveOf_81 (by decide) (fun cn => ?_) (fun cn => ?_)
            · have hs := if_t cn hs
              refine lv_iconst (v := 0) C.1 C.2.1 dX8_positiveOf_88 (by decide) ?_
              obtain ⟨rfl, rfl⟩ := so2 hs
              exact M_zret C hI (by decide) dX8_positiveOf_89
            · have hs := if_f cn hs
              refine lv_iconst (v := 1) C.1 C.2.1 dX8_positiveOf_84 (by decide) ?_
              refine lv_goto (tgt := 89) C.1 C.2.1 dX8_positiveOf_85 (by decide) ?_
              obtain ⟨rfl, rfl⟩ := so2 hs
              exact M_zret C hI (by decide) dX8_positiveOf_89
  · have hs := if_f cn hs
    refine lv_aload_n C.1 C.2.1 dX8_positiveOf_12 rfl (lv_at hl 0 rfl) ?_
    refine lv_iload_n C.1 C.2.1 dX8_positiveOf_13 rfl (lv_at hl 1 rfl) ?_
    obtain ⟨⟨r_14, I⟩, hc, hs⟩ := bd_e hs
    refine M_call C hI (hrec _ _ _ _ _ _ _ hc) ml_X8_281 im_X8_testOf se_X8_testOf ini_X8 co_X8_testOf hyX8_testOf rfl ⟨by omega, by decide⟩ hl.1 rfl (Nat.le_of_ble_eq_true rfl) dX8_positiveOf_14 (fun H locs hI => ?_)
    refine lv_istore_n (lv' := [(2, .int r_14), (0, .ref (q 46)), (1, .int x1)]) C.1 C.2.1 dX8_positiveOf_17 rfl hl (by decide) rfl (fun ls hl => ?_)
    refine lv_aload_n C.1 C.2.1 dX8_positiveOf_18 rfl (lv_at hl 1 rfl) ?_
    refine lv_dup C.1 C.2.1 dX8_positiveOf_19 rfl ?_
    refine mg_29 C hI dX8_positiveOf_20 ?_
    refine lv_iconst (v := 1) C.1 C.2.1 dX8_positiveOf_23 (by decide) ?_
    refine lv_iadd C.1 C.2.1 dX8_positiveOf_24 ?_
    refine mp_29 C hI dX8_positiveOf_25 (fun H locs hI => ?_)
    have hs := gv_be hs
    refine lv_iload_n C.1 C.2.1 dX8_positiveOf_28 rfl (lv_at hl 0 rfl) ?_
    obtain ⟨hb, hs⟩ := ck_e hs
    obtain ⟨rfl, rfl⟩ := so2 hs
    exact M_zret C hI hb dX8_positiveOf_29

def lX8_plainOf_2 (rs : Int32 → (Nat → Int32) → (Nat → Int64) → (Nat → Nat → Int32) → (Nat → Nat → Int64) → Option (Int32 × (Nat → Int32))) : Nat → Int32 → Int32 → (Nat → Int32) → (Nat → Int64) → (Nat → Nat → Int32) → (Nat → Nat → Int64) → Option (Int32 × (Nat → Int32))
  | 0, _, _, _, _, _, _ => none
  | n + 1, x1, x2, I, J, A, B =>
    (sX8_passes (7 : Int32) I J A B).bind fun (r_5, I) =>
    if r_5 = 0 then
    (some (x2, I))
    else
    gv (if x2 = 0 then (1 : Int32) else (0 : Int32)) fun v_20 =>
    lX8_plainOf_2 rs n x1 v_20 I J A B
def sX8_plainOf_F (rs : Int32 → (Nat → Int32) → (Nat → Int64) → (Nat → Nat → Int32) → (Nat → Nat → Int64) → Option (Int32 × (Nat → Int32))) (x1 : Int32) (I : Nat → Int32) (J : Nat → Int64) (A : Nat → Nat → Int32) (B : Nat → Nat → Int64) : Option ((Int32) × (Nat → Int32)) :=
(lX8_plainOf_2 rs FU x1 (0 : Int32) I J A B).bind fun (x2_2, I) =>
(sX8_positiveOf_F rs x1 I J A B).bind fun (r_26, I) =>
gv (if r_26 = x2_2 then (0 : Int32) else (1 : Int32)) fun v_38 =>
some (v_38, I)
set_option maxRecDepth 100000 in
set_option maxHeartbeats 8000000 in
theorem kX8_plainOf_F (l : Launch) (D : va_G) (cy : Nat → ClassId) (q : Nat → Nat) (hd : Nat) (hh : 35 ≤ hd) (rs : Int32 → (Nat → Int32) → (Nat → Int64) → (Nat → Nat → Int32) → (Nat → Nat → Int64) → Option (Int32 × (Nat → Int32))) (hrec : ∀ (z0 : Int32) (I : Nat → Int32) (J : Nat → Int64) (A : Nat → Nat → Int32) (B : Nat → Nat → Int64) (r : Int32) (I2 : Nat → Int32), rs z0 I J A B = some (r, I2) → McI l yX8_testOf cX8_testOf 4 (some .boolean) hd [.ref (q 46), .int z0] D cy q I J A B (some (.int r)) I2 J A B) (x1 : Int32) (I : Nat → Int32) (J : Nat → Int64) (A : Nat → Nat → Int32) (B : Nat → Nat → Int64) (r : Int32) (I2 : Nat → Int32) (hs : sX8_plainOf_F rs x1 I J A B = some (r, I2)) : McI l yX8_plainOf cX8_plainOf 3 (some .boolean) (hd + 2) [.ref (q 46), .int x1] D cy q I J A B (some (.int r)) I2 J A B := by
  refine M_start rfl rfl (Nat.le_of_ble_eq_true rfl) ?_
  intro p e s m args below meth c H locs C hI ls hl
  have hl : lv_has ls 3 [(0, .ref (q 46)), (1, .int x1)] := hl
  rw [sX8_plainOf_F] at hs
  refine lv_iconst (v := 0) C.1 C.2.1 dX8_plainOf_0 (by decide) ?_
  refine lv_istore_n (lv' := [(2, .int (0 : Int32)), (0, .ref (q 46)), (1, .int x1)]) C.1 C.2.1 dX8_plainOf_1 rfl hl (by decide) rfl (fun ls hl => ?_)
  have KL_2 : ∀ (n : Nat) (x1 : Int32) (x2 : Int32) (I : Nat → Int32) (J : Nat → Int64) (A : Nat → Nat → Int32) (B : Nat → Nat → Int64) (o : Int32 × (Nat → Int32)) (Q : State → Prop) (H : Heap) (locs : List Loc) (ls : Array Slot), lX8_plainOf_2 rs n x1 x2 I J A B = some o → MI D cy s s.heap H locs q I J A B → lv_has ls 3 [(0, .ref (q 46)), (1, .int x1), (2, .int x2)] → (∀ (o2_0 : Int32) (I_0 : Nat → Int32) (H : Heap) (locs : List Loc) (ls : Array Slot), o = (o2_0, I_0) → MI D cy s s.heap H locs q I_0 J A B → lv_has ls 3 [(0, .ref (q 46)), (1, .int x1), (2, .int o2_0)] → W p l e (rmL (hd + 2)) s m args below meth c H locs 0 0 Q (F0 m 24 ls [])) → W p l e (rmL (hd + 2)) s m args below meth c H locs 0 0 Q (F0 m 2 ls []) := by
    intro n; induction n with
    | zero => intro x1 x2 I J A B o Q H locs ls hs; rw [lX8_plainOf_2] at hs; cases hs
    | succ n ih =>
      intro x1 x2 I J A B o Q H locs ls hs hI hl kk0
      rw [lX8_plainOf_2] at hs
      refine lv_aload_n C.1 C.2.1 dX8_plainOf_2 rfl (lv_at hl 0 rfl) ?_
      refine lv_bipush (v := 7) C.1 C.2.1 dX8_plainOf_3 (by decide) ?_
      obtain ⟨⟨r_5, I⟩, hc, hs⟩ := bd_e hs
      refine M_call C hI (kX8_passes l D cy q _ _ _ _ _ _ _ hc) ml_X8_265 im_X8_passes se_X8_passes ini_X8 co_X8_passes hyX8_passes rfl ⟨by omega, by decide⟩ hl.1 rfl (Nat.le_of_ble_eq_true rfl) dX8_plainOf_5 (fun H locs hI => ?_)
      refine lv_if_eq (tgt := 24) C.1 C.2.1 dX8_plainOf_8 (by decide) (fun cn => ?_) (fun cn => ?_)
      · have hs := if_t cn hs
        have eo := (Option.some.inj hs).symm
        exact kk0 _ _ _ _ _ eo hI (lv_sub hl [0, 1, 2] rfl)
      · have hs := if_f cn hs
        refine lv_iload_n C.1 C.2.1 dX8_plainOf_11 rfl (lv_at hl 2 rfl) ?_
        obtain ⟨v_20, ev_20, hs⟩ := gv_ex hs
        have KP_20 : W p l e (rmL (hd + 2)) s m args below meth c H locs 0 0 Q (F0 m 20 ls [.int v_20]) := by
          refine lv_istore_n (lv' := [(2, .int v_20), (0, .ref (q 46)), (1, .int x1)]) C.1 C.2.1 dX8_plainOf_20 rfl hl (by decide) rfl (fun ls hl => ?_)
          refine lv_goto (tgt := 2) C.1 C.2.1 dX8_plainOf_21 (by decide) ?_
          exact ih _ _ _ _ _ _ _ _ _ _ _ hs hI (lv_sub hl [1, 2, 0] rfl) kk0
        refine lv_if_ne (tgt := 19) C.1 C.2.1 dX8_plainOf_12 (by decide) (fun cn => ?_) (fun cn => ?_)
        · have ev_20 := if_f' cn ev_20
          refine lv_iconst (v := 0) C.1 C.2.1 dX8_plainOf_19 (by decide) ?_
          subst ev_20
          exact KP_20
        · have ev_20 := if_t' cn ev_20
          refine lv_iconst (v := 1) C.1 C.2.1 dX8_plainOf_15 (by decide) ?_
          refine lv_goto (tgt := 20) C.1 C.2.1 dX8_plainOf_16 (by decide) ?_
          subst ev_20
          exact KP_20
  obtain ⟨⟨x2_2, I_L⟩, hL, hs⟩ := bd_e hs
  refine KL_2 FU _ _ _ _ _ _ _ _ _ _ _ hL hI (lv_sub hl [1, 2, 0] rfl) (fun z0 z1 H locs ls eo hI hl => ?_)
  obtain ⟨rfl, rfl⟩ := pr2 eo
  refine lv_aload_n C.1 C.2.1 dX8_plainOf_24 rfl (lv_at hl 0 rfl) ?_
  refine lv_iload_n C.1 C.2.1 dX8_plainOf_25 rfl (lv_at hl 1 rfl) ?_
  obtain ⟨⟨r_26, I⟩, hc, hs⟩ := bd_e hs
  refine M_call C hI (kX8_positiveOf_F l D cy q hd hh rs hrec _ _ _ _ _ _ _ hc) ml_X8_278 im_X8_positiveOf se_X8_positiveOf ini_X8 co_X8_positiveOf hyX8_positiveOf rfl ⟨by omega, by decide⟩ hl.1 rfl (Nat.le_of_ble_eq_true rfl) dX8_plainOf_26 (fun H locs hI => ?_)
  refine lv_iload_n C.1 C.2.1 dX8_plainOf_29 rfl (lv_at hl 2 rfl) ?_
  obtain ⟨v_38, ev_38, hs⟩ := gv_ex hs
  have KP_38 : W p l e (rmL (hd + 2)) s m args below meth c H locs 0 0 (MQ below (mQ D cy q (some (.int r)) I2 J A B) args s 0 0 (MA q)) (F0 m 38 ls [.int v_38]) := by
    obtain ⟨rfl, rfl⟩ := so2 hs
    exact M_zret C hI (isB_ev ev_38 (by (repeat' split) <;> decide)) dX8_plainOf_38
  refine lv_icmp_eq (tgt := 37) C.1 C.2.1 dX8_plainOf_30 (by decide) (fun cn => ?_) (fun cn => ?_)
  · have ev_38 := if_t' cn ev_38
    refine lv_iconst (v := 0) C.1 C.2.1 dX8_plainOf_37 (by decide) ?_
    subst ev_38
    exact KP_38
  · have ev_38 := if_f' cn ev_38
    refine lv_iconst (v := 1) C.1 C.2.1 dX8_plainOf_33 (by decide) ?_
    refine lv_goto (tgt := 38) C.1 C.2.1 dX8_plainOf_34 (by decide) ?_
    subst ev_38
    exact KP_38

def lX8_bothOf_6 (rs : Int32 → (Nat → Int32) → (Nat → Int64) → (Nat → Nat → Int32) → (Nat → Nat → Int64) → Option (Int32 × (Nat → Int32))) : Nat → Int32 → Int32 → (Nat → Int32) → (Nat → Int64) → (Nat → Nat → Int32) → (Nat → Nat → Int64) → Option (Int32 × (Nat → Int32))
  | 0, _, _, _, _, _, _ => none
  | n + 1, x1, x2, I, J, A, B =>
    (sX8_passes (6 : Int32) I J A B).bind fun (r_9, I) =>
    if r_9 = 0 then
    (some (x2, I))
    else
    gv (fun (y1_j29 : Int32) (I : Nat → Int32) =>
    (sX8_plainOf_F rs y1_j29 I J A B).bind fun (r_29, I) =>
    gv (if x2 = 0 then (0 : Int32) else (if r_29 = 0 then (0 : Int32) else (1 : Int32))) fun v_46 =>
    lX8_bothOf_6 rs n x1 v_46 I J A B) fun k_29 =>
    gv (fun (I : Nat → Int32) =>
    k_29 (0 : Int32) I) fun k_28 =>
    if x1 = 0 then
    (k_28 I)
    else
    if x2 = 0 then
    (k_28 I)
    else
    k_29 (1 : Int32) I
def sX8_bothOf_F (rs : Int32 → (Nat → Int32) → (Nat → Int64) → (Nat → Nat → Int32) → (Nat → Nat → Int64) → Option (Int32 × (Nat → Int32))) (x1 : Int32) (I : Nat → Int32) (J : Nat → Int64) (A : Nat → Nat → Int32) (B : Nat → Nat → Int64) : Option ((Int32) × (Nat → Int32)) :=
(sX8_plainOf_F rs x1 I J A B).bind fun (r_2, I) =>
(lX8_bothOf_6 rs FU x1 r_2 I J A B).bind fun (x2_6, I) =>
ck (isB x2_6) <|
some (x2_6, I)
set_option maxRecDepth 100000 in
set_option maxHeartbeats 8000000 in
theorem kX8_bothOf_F (l : Launch) (D : va_G) (cy : Nat → ClassId) (q : Nat → Nat) (hd : Nat) (hh : 35 ≤ hd) (rs : Int32 → (Nat → Int32) → (Nat → Int64) → (Nat → Nat → Int32) → (Nat → Nat → Int64) → Option (Int32 × (Nat → Int32))) (hrec : ∀ (z0 : Int32) (I : Nat → Int32) (J : Nat → Int64) (A : Nat → Nat → Int32) (B : Nat → Nat → Int64) (r : Int32) (I2 : Nat → Int32), rs z0 I J A B = some (r, I2) → McI l yX8_testOf cX8_testOf 4 (some .boolean) hd [.ref (q 46), .int z0] D cy q I J A B (some (.int r)) I2 J A B) (x1 : Int32) (I : Nat → Int32) (J : Nat → Int64) (A : Nat → Nat → Int32) (B : Nat → Nat → Int64) (r : Int32) (I2 : Nat → Int32) (hs : sX8_bothOf_F rs x1 I J A B = some (r, I2)) : McI l yX8_bothOf cX8_bothOf 4 (some .boolean) (hd + 3) [.ref (q 46), .int x1] D cy q I J A B (some (.int r)) I2 J A B := by
  refine M_start rfl rfl (Nat.le_of_ble_eq_true rfl) ?_
  intro p e s m args below meth c H locs C hI ls hl
  have hl : lv_has ls 4 [(0, .ref (q 46)), (1, .int x1)] := hl
  rw [sX8_bothOf_F] at hs
  refine lv_aload_n C.1 C.2.1 dX8_bothOf_0 rfl (lv_at hl 0 rfl) ?_
  refine lv_iload_n C.1 C.2.1 dX8_bothOf_1 rfl (lv_at hl 1 rfl) ?_
  obtain ⟨⟨r_2, I⟩, hc, hs⟩ := bd_e hs
  refine M_call C hI (kX8_plainOf_F l D cy q hd hh rs hrec _ _ _ _ _ _ _ hc) ml_X8_275 im_X8_plainOf se_X8_plainOf ini_X8 co_X8_plainOf hyX8_plainOf rfl ⟨by omega, by decide⟩ hl.1 rfl (Nat.le_of_ble_eq_true rfl) dX8_bothOf_2 (fun H locs hI => ?_)
  refine lv_istore_n (lv' := [(2, .int r_2), (0, .ref (q 46)), (1, .int x1)]) C.1 C.2.1 dX8_bothOf_5 rfl hl (by decide) rfl (fun ls hl => ?_)
  have KL_6 : ∀ (n : Nat) (x1 : Int32) (x2 : Int32) (I : Nat → Int32) (J : Nat → Int64) (A : Nat → Nat → Int32) (B : Nat → Nat → Int64) (o : Int32 × (Nat → Int32)) (Q : State → Prop) (H : Heap) (locs : List Loc) (ls : Array Slot), lX8_bothOf_6 rs n x1 x2 I J A B = some o → MI D cy s s.heap H locs q I J A B → lv_has ls 4 [(0, .ref (q 46)), (1, .int x1), (2, .int x2)] → (∀ (o2_0 : Int32) (I_0 : Nat → Int32) (H : Heap) (locs : List Loc) (ls : Array Slot), o = (o2_0, I_0) → MI D cy s s.heap H locs q I_0 J A B → lv_has ls 4 [(2, .int o2_0)] → W p l e (rmL (hd + 3)) s m args below meth c H locs 0 0 Q (F0 m 50 ls [])) → W p l e (rmL (hd + 3)) s m args below meth c H locs 0 0 Q (F0 m 6 ls []) := by
    intro n; induction n with
    | zero => intro x1 x2 I J A B o Q H locs ls hs; rw [lX8_bothOf_6] at hs; cases hs
    | succ n ih =>
      intro x1 x2 I J A B o Q H locs ls hs hI hl kk0
      rw [lX8_bothOf_6] at hs
      refine lv_aload_n C.1 C.2.1 dX8_bothOf_6 rfl (lv_at hl 0 rfl) ?_
      refine lv_bipush (v := 6) C.1 C.2.1 dX8_bothOf_7 (by decide) ?_
      obtain ⟨⟨r_9, I⟩, hc, hs⟩ := bd_e hs
      refine M_call C hI (kX8_passes l D cy q _ _ _ _ _ _ _ hc) ml_X8_265 im_X8_passes se_X8_passes ini_X8 co_X8_passes hyX8_passes rfl ⟨by omega, by decide⟩ hl.1 rfl (Nat.le_of_ble_eq_true rfl) dX8_bothOf_9 (fun H locs hI => ?_)
      refine lv_if_eq (tgt := 50) C.1 C.2.1 dX8_bothOf_12 (by decide) (fun cn => ?_) (fun cn => ?_)
      · have hs := if_t cn hs
        have eo := (Option.some.inj hs).symm
        exact kk0 _ _ _ _ _ eo hI (lv_sub hl [2] rfl)
      · have hs := if_f cn hs
        refine lv_aload_n C.1 C.2.1 dX8_bothOf_15 rfl (lv_at hl 0 rfl) ?_
        refine lv_iload_n C.1 C.2.1 dX8_bothOf_16 rfl (lv_at hl 1 rfl) ?_
        obtain ⟨k_29, ek_29, hs⟩ := gv_ex hs
        have KJ_29 : ∀ (y1_j29 : Int32) (I : Nat → Int32) (H : Heap) (locs : List Loc) (ls : Array Slot), k_29 y1_j29 I = some o → MI D cy s s.heap H locs q I J A B → lv_has ls 4 [(0, .ref (q 46)), (1, .int x1), (2, .int x2)] → W p l e (rmL (hd + 3)) s m args below meth c H locs 0 0 Q (F0 m 29 ls [.int y1_j29, .ref (q 46)]) := by
          intro y1_j29 I H locs ls hs hI hl
          rw [ek_29] at hs
          obtain ⟨⟨r_29, I⟩, hc, hs⟩ := bd_e hs
          refine M_call C hI (kX8_plainOf_F l D cy q hd hh rs hrec _ _ _ _ _ _ _ hc) ml_X8_275 im_X8_plainOf se_X8_plainOf ini_X8 co_X8_plainOf hyX8_plainOf rfl ⟨by omega, by decide⟩ hl.1 rfl (Nat.le_of_ble_eq_true rfl) dX8_bothOf_29 (fun H locs hI => ?_)
          refine lv_istore_n (lv' := [(3, .int r_29), (0, .ref (q 46)), (1, .int x1), (2, .int x2)]) C.1 C.2.1 dX8_bothOf_32 rfl hl (by decide) rfl (fun ls hl => ?_)
          refine lv_iload_n C.1 C.2.1 dX8_bothOf_33 rfl (lv_at hl 3 rfl) ?_
          obtain ⟨v_46, ev_46, hs⟩ := gv_ex hs
          have KP_46 : W p l e (rmL (hd + 3)) s m args below meth c H locs 0 0 Q (F0 m 46 ls [.int v_46]) := by
            refine lv_istore_n (lv' := [(2, .int v_46), (3, .int r_29), (0, .ref (q 46)), (1, .int x1)]) C.1 C.2.1 dX8_bothOf_46 rfl hl (by decide) rfl (fun ls hl => ?_)
            refine lv_goto (tgt := 6) C.1 C.2.1 dX8_bothOf_47 (by decide) ?_
            exact ih _ _ _ _ _ _ _ _ _ _ _ hs hI (lv_sub hl [2, 3, 0] rfl) kk0
          refine lv_if_eq (tgt := 45) C.1 C.2.1 dX8_bothOf_34 (by decide) (fun cn => ?_) (fun cn => ?_)
          · have ev_46 := if_t' cn ev_46
            refine lv_iconst (v := 0) C.1 C.2.1 dX8_bothOf_45 (by decide) ?_
            subst ev_46
            exact KP_46
          · have ev_46 := if_f' cn ev_46
            refine lv_iload_n C.1 C.2.1 dX8_bothOf_37 rfl (lv_at hl 0 rfl) ?_
            refine lv_if_eq (tgt := 45) C.1 C.2.1 dX8_bothOf_38 (by decide) (fun cn => ?_) (fun cn => ?_)
            · have ev_46 := if_t' cn ev_46
              refine lv_iconst (v := 0) C.1 C.2.1 dX8_bothOf_45 (by decide) ?_
              subst ev_46
              exact KP_46
            · have ev_46 := if_f' cn ev_46
              refine lv_iconst (v := 1) C.1 C.2.1 dX8_bothOf_41 (by decide) ?_
              refine lv_goto (tgt := 46) C.1 C.2.1 dX8_bothOf_42 (by decide) ?_
              subst ev_46
              exact KP_46
        obtain ⟨k_28, ek_28, hs⟩ := gv_ex hs
        have KJ_28 : ∀ (I : Nat → Int32) (H : Heap) (locs : List Loc) (ls : Array Slot), k_28 I = some o → MI D cy s s.heap H locs q I J A B → lv_has ls 4 [(0, .ref (q 46)), (1, .int x1), (2, .int x2)] → W p l e (rmL (hd + 3)) s m args below meth c H locs 0 0 Q (F0 m 28 ls [.ref (q 46)]) := by
          intro I H locs ls hs hI hl
          rw [ek_28] at hs
          refine lv_iconst (v := 0) C.1 C.2.1 dX8_bothOf_28 (by decide) ?_
          exact KJ_29 _ _ _ _ _ hs hI (lv_sub hl [0, 1, 2] rfl)
        refine lv_if_eq (tgt := 28) C.1 C.2.1 dX8_bothOf_17 (by decide) (fun cn => ?_) (fun cn => ?_)
        · have hs := if_t cn hs
          exact KJ_28 _ _ _ _ hs hI (lv_sub hl [0, 1, 2] rfl)
        · have hs := if_f cn hs
          refine lv_iload_n C.1 C.2.1 dX8_bothOf_20 rfl (lv_at hl 2 rfl) ?_
          refine lv_if_eq (tgt := 28) C.1 C.2.1 dX8_bothOf_21 (by decide) (fun cn => ?_) (fun cn => ?_)
          · have hs := if_t cn hs
            exact KJ_28 _ _ _ _ hs hI (lv_sub hl [0, 1, 2] rfl)
          · have hs := if_f cn hs
            refine lv_iconst (v := 1) C.1 C.2.1 dX8_bothOf_24 (by decide) ?_
            refine lv_goto (tgt := 29) C.1 C.2.1 dX8_bothOf_25 (by decide) ?_
            exact KJ_29 _ _ _ _ _ hs hI (lv_sub hl [0, 1, 2] rfl)
  obtain ⟨⟨x2_6, I_L⟩, hL, hs⟩ := bd_e hs
  refine KL_6 FU _ _ _ _ _ _ _ _ _ _ _ hL hI (lv_sub hl [1, 2, 0] rfl) (fun z0 z1 H locs ls eo hI hl => ?_)
  obtain ⟨rfl, rfl⟩ := pr2 eo
  refine lv_iload_n C.1 C.2.1 dX8_bothOf_50 rfl (lv_at hl 0 rfl) ?_
  obtain ⟨hb, hs⟩ := ck_e hs
  obtain ⟨rfl, rfl⟩ := so2 hs
  exact M_zret C hI hb dX8_bothOf_51

def lX8_testOf_6 (rs : Int32 → (Nat → Int32) → (Nat → Int64) → (Nat → Nat → Int32) → (Nat → Nat → Int64) → Option (Int32 × (Nat → Int32))) : Nat → Int32 → Int32 → (Nat → Int32) → (Nat → Int64) → (Nat → Nat → Int32) → (Nat → Nat → Int64) → Option (Int32 × (Nat → Int32))
  | 0, _, _, _, _, _, _ => none
  | n + 1, x1, x2, I, J, A, B =>
    (sX8_passes (5 : Int32) I J A B).bind fun (r_8, I) =>
    if r_8 = 0 then
    (some (x2, I))
    else
    gv (fun (y1_j28 : Int32) (I : Nat → Int32) =>
    (sX8_bothOf_F rs y1_j28 I J A B).bind fun (r_28, I) =>
    gv (if x2 = 0 then (if r_28 = 0 then (0 : Int32) else (1 : Int32)) else (1 : Int32)) fun v_45 =>
    lX8_testOf_6 rs n x1 v_45 I J A B) fun k_28 =>
    gv (fun (I : Nat → Int32) =>
    k_28 (0 : Int32) I) fun k_27 =>
    if x1 = 0 then
    (k_27 I)
    else
    if x2 = 0 then
    (k_28 (1 : Int32) I)
    else
    k_27 I
def sX8_testOf_F (rs : Int32 → (Nat → Int32) → (Nat → Int64) → (Nat → Nat → Int32) → (Nat → Nat → Int64) → Option (Int32 × (Nat → Int32))) (x1 : Int32) (I : Nat → Int32) (J : Nat → Int64) (A : Nat → Nat → Int32) (B : Nat → Nat → Int64) : Option ((Int32) × (Nat → Int32)) :=
(sX8_bothOf_F rs x1 I J A B).bind fun (r_2, I) =>
(lX8_testOf_6 rs FU x1 r_2 I J A B).bind fun (x2_6, I) =>
ck (isB x2_6) <|
some (x2_6, I)
set_option maxRecDepth 100000 in
set_option maxHeartbeats 8000000 in
theorem kX8_testOf_F (l : Launch) (D : va_G) (cy : Nat → ClassId) (q : Nat → Nat) (hd : Nat) (hh : 35 ≤ hd) (rs : Int32 → (Nat → Int32) → (Nat → Int64) → (Nat → Nat → Int32) → (Nat → Nat → Int64) → Option (Int32 × (Nat → Int32))) (hrec : ∀ (z0 : Int32) (I : Nat → Int32) (J : Nat → Int64) (A : Nat → Nat → Int32) (B : Nat → Nat → Int64) (r : Int32) (I2 : Nat → Int32), rs z0 I J A B = some (r, I2) → McI l yX8_testOf cX8_testOf 4 (some .boolean) hd [.ref (q 46), .int z0] D cy q I J A B (some (.int r)) I2 J A B) (x1 : Int32) (I : Nat → Int32) (J : Nat → Int64) (A : Nat → Nat → Int32) (B : Nat → Nat → Int64) (r : Int32) (I2 : Nat → Int32) (hs : sX8_testOf_F rs x1 I J A B = some (r, I2)) : McI l yX8_testOf cX8_testOf 4 (some .boolean) (hd + 4) [.ref (q 46), .int x1] D cy q I J A B (some (.int r)) I2 J A B := by
  refine M_start rfl rfl (Nat.le_of_ble_eq_true rfl) ?_
  intro p e s m args below meth c H locs C hI ls hl
  have hl : lv_has ls 4 [(0, .ref (q 46)), (1, .int x1)] := hl
  rw [sX8_testOf_F] at hs
  refine lv_aload_n C.1 C.2.1 dX8_testOf_0 rfl (lv_at hl 0 rfl) ?_
  refine lv_iload_n C.1 C.2.1 dX8_testOf_1 rfl (lv_at hl 1 rfl) ?_
  obtain ⟨⟨r_2, I⟩, hc, hs⟩ := bd_e hs
  refine M_call C hI (kX8_bothOf_F l D cy q hd hh rs hrec _ _ _ _ _ _ _ hc) ml_X8_271 im_X8_bothOf se_X8_bothOf ini_X8 co_X8_bothOf hyX8_bothOf rfl ⟨by omega, by decide⟩ hl.1 rfl (Nat.le_of_ble_eq_true rfl) dX8_testOf_2 (fun H locs hI => ?_)
  refine lv_istore_n (lv' := [(2, .int r_2), (0, .ref (q 46)), (1, .int x1)]) C.1 C.2.1 dX8_testOf_5 rfl hl (by decide) rfl (fun ls hl => ?_)
  have KL_6 : ∀ (n : Nat) (x1 : Int32) (x2 : Int32) (I : Nat → Int32) (J : Nat → Int64) (A : Nat → Nat → Int32) (B : Nat → Nat → Int64) (o : Int32 × (Nat → Int32)) (Q : State → Prop) (H : Heap) (locs : List Loc) (ls : Array Slot), lX8_testOf_6 rs n x1 x2 I J A B = some o → MI D cy s s.heap H locs q I J A B → lv_has ls 4 [(0, .ref (q 46)), (1, .int x1), (2, .int x2)] → (∀ (o2_0 : Int32) (I_0 : Nat → Int32) (H : Heap) (locs : List Loc) (ls : Array Slot), o = (o2_0, I_0) → MI D cy s s.heap H locs q I_0 J A B → lv_has ls 4 [(2, .int o2_0)] → W p l e (rmL (hd + 4)) s m args below meth c H locs 0 0 Q (F0 m 49 ls [])) → W p l e (rmL (hd + 4)) s m args below meth c H locs 0 0 Q (F0 m 6 ls []) := by
    intro n; induction n with
    | zero => intro x1 x2 I J A B o Q H locs ls hs; rw [lX8_testOf_6] at hs; cases hs
    | succ n ih =>
      intro x1 x2 I J A B o Q H locs ls hs hI hl kk0
      rw [lX8_testOf_6] at hs
      refine lv_aload_n C.1 C.2.1 dX8_testOf_6 rfl (lv_at hl 0 rfl) ?_
      refine lv_iconst (v := 5) C.1 C.2.1 dX8_testOf_7 (by decide) ?_
      obtain ⟨⟨r_8, I⟩, hc, hs⟩ := bd_e hs
      refine M_call C hI (kX8_passes l D cy q _ _ _ _ _ _ _ hc) ml_X8_265 im_X8_passes se_X8_passes ini_X8 co_X8_passes hyX8_passes rfl ⟨by omega, by decide⟩ hl.1 rfl (Nat.le_of_ble_eq_true rfl) dX8_testOf_8 (fun H locs hI => ?_)
      refine lv_if_eq (tgt := 49) C.1 C.2.1 dX8_testOf_11 (by decide) (fun cn => ?_) (fun cn => ?_)
      · have hs := if_t cn hs
        have eo := (Option.some.inj hs).symm
        exact kk0 _ _ _ _ _ eo hI (lv_sub hl [2] rfl)
      · have hs := if_f cn hs
        refine lv_aload_n C.1 C.2.1 dX8_testOf_14 rfl (lv_at hl 0 rfl) ?_
        refine lv_iload_n C.1 C.2.1 dX8_testOf_15 rfl (lv_at hl 1 rfl) ?_
        obtain ⟨k_28, ek_28, hs⟩ := gv_ex hs
        have KJ_28 : ∀ (y1_j28 : Int32) (I : Nat → Int32) (H : Heap) (locs : List Loc) (ls : Array Slot), k_28 y1_j28 I = some o → MI D cy s s.heap H locs q I J A B → lv_has ls 4 [(0, .ref (q 46)), (1, .int x1), (2, .int x2)] → W p l e (rmL (hd + 4)) s m args below meth c H locs 0 0 Q (F0 m 28 ls [.int y1_j28, .ref (q 46)]) := by
          intro y1_j28 I H locs ls hs hI hl
          rw [ek_28] at hs
          obtain ⟨⟨r_28, I⟩, hc, hs⟩ := bd_e hs
          refine M_call C hI (kX8_bothOf_F l D cy q hd hh rs hrec _ _ _ _ _ _ _ hc) ml_X8_271 im_X8_bothOf se_X8_bothOf ini_X8 co_X8_bothOf hyX8_bothOf rfl ⟨by omega, by decide⟩ hl.1 rfl (Nat.le_of_ble_eq_true rfl) dX8_testOf_28 (fun H locs hI => ?_)
          refine lv_istore_n (lv' := [(3, .int r_28), (0, .ref (q 46)), (1, .int x1), (2, .int x2)]) C.1 C.2.1 dX8_testOf_31 rfl hl (by decide) rfl (fun ls hl => ?_)
          refine lv_iload_n C.1 C.2.1 dX8_testOf_32 rfl (lv_at hl 3 rfl) ?_
          obtain ⟨v_45, ev_45, hs⟩ := gv_ex hs
          have KP_45 : W p l e (rmL (hd + 4)) s m args below meth c H locs 0 0 Q (F0 m 45 ls [.int v_45]) := by
            refine lv_istore_n (lv' := [(2, .int v_45), (3, .int r_28), (0, .ref (q 46)), (1, .int x1)]) C.1 C.2.1 dX8_testOf_45 rfl hl (by decide) rfl (fun ls hl => ?_)
            refine lv_goto (tgt := 6) C.1 C.2.1 dX8_testOf_46 (by decide) ?_
            exact ih _ _ _ _ _ _ _ _ _ _ _ hs hI (lv_sub hl [2, 3, 0] rfl) kk0
          refine lv_if_ne (tgt := 40) C.1 C.2.1 dX8_testOf_33 (by decide) (fun cn => ?_) (fun cn => ?_)
          · have ev_45 := if_f' cn ev_45
            refine lv_iconst (v := 1) C.1 C.2.1 dX8_testOf_40 (by decide) ?_
            refine lv_goto (tgt := 45) C.1 C.2.1 dX8_testOf_41 (by decide) ?_
            subst ev_45
            exact KP_45
          · have ev_45 := if_t' cn ev_45
            refine lv_iload_n C.1 C.2.1 dX8_testOf_36 rfl (lv_at hl 0 rfl) ?_
            refine lv_if_eq (tgt := 44) C.1 C.2.1 dX8_testOf_37 (by decide) (fun cn => ?_) (fun cn => ?_)
            · have ev_45 := if_t' cn ev_45
              refine lv_iconst (v := 0) C.1 C.2.1 dX8_testOf_44 (by decide) ?_
              subst ev_45
              exact KP_45
            · have ev_45 := if_f' cn ev_45
              refine lv_iconst (v := 1) C.1 C.2.1 dX8_testOf_40 (by decide) ?_
              refine lv_goto (tgt := 45) C.1 C.2.1 dX8_testOf_41 (by decide) ?_
              subst ev_45
              exact KP_45
        obtain ⟨k_27, ek_27, hs⟩ := gv_ex hs
        have KJ_27 : ∀ (I : Nat → Int32) (H : Heap) (locs : List Loc) (ls : Array Slot), k_27 I = some o → MI D cy s s.heap H locs q I J A B → lv_has ls 4 [(0, .ref (q 46)), (1, .int x1), (2, .int x2)] → W p l e (rmL (hd + 4)) s m args below meth c H locs 0 0 Q (F0 m 27 ls [.ref (q 46)]) := by
          intro I H locs ls hs hI hl
          rw [ek_27] at hs
          refine lv_iconst (v := 0) C.1 C.2.1 dX8_testOf_27 (by decide) ?_
          exact KJ_28 _ _ _ _ _ hs hI (lv_sub hl [0, 1, 2] rfl)
        refine lv_if_eq (tgt := 27) C.1 C.2.1 dX8_testOf_16 (by decide) (fun cn => ?_) (fun cn => ?_)
        · have hs := if_t cn hs
          exact KJ_27 _ _ _ _ hs hI (lv_sub hl [0, 1, 2] rfl)
        · have hs := if_f cn hs
          refine lv_iload_n C.1 C.2.1 dX8_testOf_19 rfl (lv_at hl 2 rfl) ?_
          refine lv_if_ne (tgt := 27) C.1 C.2.1 dX8_testOf_20 (by decide) (fun cn => ?_) (fun cn => ?_)
          · have hs := if_f cn hs
            exact KJ_27 _ _ _ _ hs hI (lv_sub hl [0, 1, 2] rfl)
          · have hs := if_t cn hs
            refine lv_iconst (v := 1) C.1 C.2.1 dX8_testOf_23 (by decide) ?_
            refine lv_goto (tgt := 28) C.1 C.2.1 dX8_testOf_24 (by decide) ?_
            exact KJ_28 _ _ _ _ _ hs hI (lv_sub hl [0, 1, 2] rfl)
  obtain ⟨⟨x2_6, I_L⟩, hL, hs⟩ := bd_e hs
  refine KL_6 FU _ _ _ _ _ _ _ _ _ _ _ hL hI (lv_sub hl [1, 2, 0] rfl) (fun z0 z1 H locs ls eo hI hl => ?_)
  obtain ⟨rfl, rfl⟩ := pr2 eo
  refine lv_iload_n C.1 C.2.1 dX8_testOf_49 rfl (lv_at hl 0 rfl) ?_
  obtain ⟨hb, hs⟩ := ck_e hs
  obtain ⟨rfl, rfl⟩ := so2 hs
  exact M_zret C hI hb dX8_testOf_50
def sX8_testOf : Nat → Int32 → (Nat → Int32) → (Nat → Int64) → (Nat → Nat → Int32) → (Nat → Nat → Int64) → Option ((Int32) × (Nat → Int32))
  | 0, _, _, _, _, _ => none
  | d + 1, x1, I, J, A, B => sX8_testOf_F (sX8_testOf d) x1 I J A B
theorem kX8_testOf (l : Launch) (D : va_G) (cy : Nat → ClassId) (q : Nat → Nat) (d : Nat) : ∀ (x1 : Int32) (I : Nat → Int32) (J : Nat → Int64) (A : Nat → Nat → Int32) (B : Nat → Nat → Int64) (r : Int32) (I2 : Nat → Int32), sX8_testOf d x1 I J A B = some (r, I2) → McI l yX8_testOf cX8_testOf 4 (some .boolean) (35 + 4 * d) [.ref (q 46), .int x1] D cy q I J A B (some (.int r)) I2 J A B := by
  induction d with
  | zero => intro x1 I J A B r I2 hs; rw [sX8_testOf] at hs; cases hs
  | succ d ih =>
    intro x1 I J A B r I2 hs
    rw [sX8_testOf] at hs
    have e : 35 + 4 * (d + 1) = (35 + 4 * d) + 4 := by omega
    rw [e]
    exact kX8_testOf_F l D cy q (35 + 4 * d) (by omega) (sX8_testOf d) ih x1 I J A B r I2 hs

def sX8_readClause (I : Nat → Int32) (J : Nat → Int64) (A : Nat → Nat → Int32) (B : Nat → Nat → Int64) : Option ((Nat → Int32)) :=
(sX8_takes (1 : Int32) I J A B).bind fun (r_2, I) =>
gv (fun (I : Nat → Int32) =>
(sX8_takes (4 : Int32) I J A B).bind fun (r_31, I) =>
if r_31 = 0 then
(some I)
else
(sX8_readTest 10 (0 : Int32) I J A B).bind fun I =>
some I) fun k_29 =>
gv (fun (I : Nat → Int32) =>
(sX8_readSum 10 (0 : Int32) I J A B).bind fun I =>
k_29 I) fun k_16 =>
if r_2 = 0 then
((sX8_takes (2 : Int32) I J A B).bind fun (r_10, I) =>
if r_10 = 0 then
((sX8_must (3 : Int32) I J A B).bind fun I =>
k_29 I)
else
k_16 I)
else
k_16 I
set_option maxRecDepth 100000 in
set_option maxHeartbeats 8000000 in
theorem kX8_readClause (l : Launch) (D : va_G) (cy : Nat → ClassId) (q : Nat → Nat) (I : Nat → Int32) (J : Nat → Int64) (A : Nat → Nat → Int32) (B : Nat → Nat → Int64) (I2 : Nat → Int32) (hs : sX8_readClause I J A B = some I2) : McI l yX8_readClause cX8_readClause 1 none 66 [.ref (q 46)] D cy q I J A B none I2 J A B := by
  refine M_start rfl rfl (Nat.le_of_ble_eq_true rfl) ?_
  intro p e s m args below meth c H locs C hI ls hl
  have hl : lv_has ls 1 [(0, .ref (q 46))] := hl
  rw [sX8_readClause] at hs
  refine lv_aload_n C.1 C.2.1 dX8_readClause_0 rfl (lv_at hl 0 rfl) ?_
  refine lv_iconst (v := 1) C.1 C.2.1 dX8_readClause_1 (by decide) ?_
  obtain ⟨⟨r_2, I⟩, hc, hs⟩ := bd_e hs
  refine M_call C hI (kX8_takes l D cy q _ _ _ _ _ _ _ hc) ml_X8_190 im_X8_takes se_X8_takes ini_X8 co_X8_takes hyX8_takes rfl ⟨by decide, by decide⟩ hl.1 rfl (Nat.le_of_ble_eq_true rfl) dX8_readClause_2 (fun H locs hI => ?_)
  obtain ⟨k_29, ek_29, hs⟩ := gv_ex hs
  have KJ_29 : ∀ (I : Nat → Int32) (H : Heap) (locs : List Loc) (ls : Array Slot), k_29 I = some I2 → MI D cy s s.heap H locs q I J A B → lv_has ls 1 [(0, .ref (q 46))] → W p l e (rmL 66) s m args below meth c H locs 0 0 (MQ below (mQ D cy q none I2 J A B) args s 0 0 (MA q)) (F0 m 29 ls []) := by
    intro I H locs ls hs hI hl
    rw [ek_29] at hs
    refine lv_aload_n C.1 C.2.1 dX8_readClause_29 rfl (lv_at hl 0 rfl) ?_
    refine lv_iconst (v := 4) C.1 C.2.1 dX8_readClause_30 (by decide) ?_
    obtain ⟨⟨r_31, I⟩, hc, hs⟩ := bd_e hs
    refine M_call C hI (kX8_takes l D cy q _ _ _ _ _ _ _ hc) ml_X8_190 im_X8_takes se_X8_takes ini_X8 co_X8_takes hyX8_takes rfl ⟨by decide, by decide⟩ hl.1 rfl (Nat.le_of_ble_eq_true rfl) dX8_readClause_31 (fun H locs hI => ?_)
    refine lv_if_eq (tgt := 42) C.1 C.2.1 dX8_readClause_34 (by decide) (fun cn => ?_) (fun cn => ?_)
    · have hs := if_t cn hs
      obtain rfl := Option.some.inj hs
      exact M_vret C hI dX8_readClause_42
    · have hs := if_f cn hs
      refine lv_aload_n C.1 C.2.1 dX8_readClause_37 rfl (lv_at hl 0 rfl) ?_
      refine lv_iconst (v := 0) C.1 C.2.1 dX8_readClause_38 (by decide) ?_
      obtain ⟨I, hc, hs⟩ := bd_e hs
      refine M_call C hI (kX8_readTest l D cy q 10 _ _ _ _ _ _ hc) ml_X8_206 im_X8_readTest se_X8_readTest ini_X8 co_X8_readTest hyX8_readTest rfl ⟨by decide, by decide⟩ hl.1 rfl (Nat.le_of_ble_eq_true rfl) dX8_readClause_39 (fun H locs hI => ?_)
      obtain rfl := Option.some.inj hs
      exact M_vret C hI dX8_readClause_42
  obtain ⟨k_16, ek_16, hs⟩ := gv_ex hs
  have KJ_16 : ∀ (I : Nat → Int32) (H : Heap) (locs : List Loc) (ls : Array Slot), k_16 I = some I2 → MI D cy s s.heap H locs q I J A B → lv_has ls 1 [(0, .ref (q 46))] → W p l e (rmL 66) s m args below meth c H locs 0 0 (MQ below (mQ D cy q none I2 J A B) args s 0 0 (MA q)) (F0 m 16 ls []) := by
    intro I H locs ls hs hI hl
    rw [ek_16] at hs
    refine lv_aload_n C.1 C.2.1 dX8_readClause_16 rfl (lv_at hl 0 rfl) ?_
    refine lv_iconst (v := 0) C.1 C.2.1 dX8_readClause_17 (by decide) ?_
    obtain ⟨I, hc, hs⟩ := bd_e hs
    refine M_call C hI (kX8_readSum l D cy q 10 _ _ _ _ _ _ hc) ml_X8_199 im_X8_readSum se_X8_readSum ini_X8 co_X8_readSum hyX8_readSum rfl ⟨by decide, by decide⟩ hl.1 rfl (Nat.le_of_ble_eq_true rfl) dX8_readClause_18 (fun H locs hI => ?_)
    refine lv_goto (tgt := 29) C.1 C.2.1 dX8_readClause_21 (by decide) ?_
    exact KJ_29 _ _ _ _ hs hI (lv_sub hl [0] rfl)
  refine lv_if_ne (tgt := 16) C.1 C.2.1 dX8_readClause_5 (by decide) (fun cn => ?_) (fun cn => ?_)
  · have hs := if_f cn hs
    exact KJ_16 _ _ _ _ hs hI (lv_sub hl [0] rfl)
  · have hs := if_t cn hs
    refine lv_aload_n C.1 C.2.1 dX8_readClause_8 rfl (lv_at hl 0 rfl) ?_
    refine lv_iconst (v := 2) C.1 C.2.1 dX8_readClause_9 (by decide) ?_
    obtain ⟨⟨r_10, I⟩, hc, hs⟩ := bd_e hs
    refine M_call C hI (kX8_takes l D cy q _ _ _ _ _ _ _ hc) ml_X8_190 im_X8_takes se_X8_takes ini_X8 co_X8_takes hyX8_takes rfl ⟨by decide, by decide⟩ hl.1 rfl (Nat.le_of_ble_eq_true rfl) dX8_readClause_10 (fun H locs hI => ?_)
    refine lv_if_eq (tgt := 24) C.1 C.2.1 dX8_readClause_13 (by decide) (fun cn => ?_) (fun cn => ?_)
    · have hs := if_t cn hs
      refine lv_aload_n C.1 C.2.1 dX8_readClause_24 rfl (lv_at hl 0 rfl) ?_
      refine lv_iconst (v := 3) C.1 C.2.1 dX8_readClause_25 (by decide) ?_
      obtain ⟨I, hc, hs⟩ := bd_e hs
      refine M_call C hI (kX8_must l D cy q _ _ _ _ _ _ hc) ml_X8_203 im_X8_must se_X8_must ini_X8 co_X8_must hyX8_must rfl ⟨by decide, by decide⟩ hl.1 rfl (Nat.le_of_ble_eq_true rfl) dX8_readClause_26 (fun H locs hI => ?_)
      exact KJ_29 _ _ _ _ hs hI (lv_sub hl [0] rfl)
    · have hs := if_f cn hs
      exact KJ_16 _ _ _ _ hs hI (lv_sub hl [0] rfl)

def lX8_reads_34 : Nat → Int32 → (Nat → Int32) → (Nat → Int64) → (Nat → Nat → Int32) → (Nat → Nat → Int64) → Option ((Nat → Int32))
  | 0, _, _, _, _, _ => none
  | n + 1, x1, I, J, A, B =>
    (sX8_sign (59 : Int32)).bind fun r_37 =>
    (sX8_takes r_37 I J A B).bind fun (r_40, I) =>
    if r_40 = 0 then
    (some I)
    else
    gv (fun (I : Nat → Int32) =>
    (sX8_fine  I J A B).bind fun r_57 =>
    if r_57 = 0 then
    (gv (x1 + 1) fun x1_67 =>
    lX8_reads_34 n x1_67 I J A B)
    else
    (sX8_readClause  I J A B).bind fun I =>
    gv (x1 + 1) fun x1_67 =>
    lX8_reads_34 n x1_67 I J A B) fun k_56 =>
    if x1 = (12 : Int32) then
    ((sX8_faults  I J A B).bind fun I =>
    k_56 I)
    else
    k_56 I
def sX8_reads (I : Nat → Int32) (J : Nat → Int64) (A : Nat → Nat → Int32) (B : Nat → Nat → Int64) : Option ((Int32) × (Nat → Int32) × (Nat → Nat → Int32)) :=
(sX8_cuts (I 20) I J A B).bind fun (I, A) =>
gv (upd I 20 (0 : Int32)) fun I =>
gv (upd I 26 (0 : Int32)) fun I =>
gv (upd I 27 (0 : Int32)) fun I =>
gv (upd I 28 (-1 : Int32)) fun I =>
(sX8_readClause  I J A B).bind fun I =>
(lX8_reads_34 FU (1 : Int32) I J A B).bind fun I =>
(sX8_fine  I J A B).bind fun r_74 =>
if r_74 = 0 then
(gv (upd I 21 (I 28)) fun I =>
(sX8_fine  I J A B).bind fun r_104 =>
ck (isB r_104) <|
some (r_104, I, A))
else
if (I 25) ≤ (I 26) then
(gv (upd I 21 (I 28)) fun I =>
(sX8_fine  I J A B).bind fun r_104 =>
ck (isB r_104) <|
some (r_104, I, A))
else
(sX8_faults  I J A B).bind fun I =>
gv (upd I 21 (I 28)) fun I =>
(sX8_fine  I J A B).bind fun r_104 =>
ck (isB r_104) <|
some (r_104, I, A)
set_option maxRecDepth 100000 in
set_option maxHeartbeats 8000000 in
theorem kX8_reads (l : Launch) (D : va_G) (cy : Nat → ClassId) (q : Nat → Nat) (I : Nat → Int32) (J : Nat → Int64) (A : Nat → Nat → Int32) (B : Nat → Nat → Int64) (r : Int32) (I2 : Nat → Int32) (A2 : Nat → Nat → Int32) (hs : sX8_reads I J A B = some (r, I2, A2)) : McI l yX8_reads cX8_reads 2 (some .boolean) 67 [.ref (q 46)] D cy q I J A B (some (.int r)) I2 J A2 B := by
  refine M_start rfl rfl (Nat.le_of_ble_eq_true rfl) ?_
  intro p e s m args below meth c H locs C hI ls hl
  have hl : lv_has ls 2 [(0, .ref (q 46))] := hl
  rw [sX8_reads] at hs
  refine lv_aload_n C.1 C.2.1 dX8_reads_0 rfl (lv_at hl 0 rfl) ?_
  refine lv_aload_n C.1 C.2.1 dX8_reads_1 rfl (lv_at hl 0 rfl) ?_
  refine mg_20 C hI dX8_reads_2 ?_
  obtain ⟨⟨I, A⟩, hc, hs⟩ := bd_e hs
  refine M_call C hI (kX8_cuts l D cy q _ _ _ _ _ _ _ hc) ml_X8_228 im_X8_cuts se_X8_cuts ini_X8 co_X8_cuts hyX8_cuts rfl ⟨by decide, by decide⟩ hl.1 rfl (Nat.le_of_ble_eq_true rfl) dX8_reads_5 (fun H locs hI => ?_)
  refine lv_aload_n C.1 C.2.1 dX8_reads_8 rfl (lv_at hl 0 rfl) ?_
  refine lv_iconst (v := 0) C.1 C.2.1 dX8_reads_9 (by decide) ?_
  refine mp_20 C hI dX8_reads_10 (fun H locs hI => ?_)
  have hs := gv_be hs
  refine lv_aload_n C.1 C.2.1 dX8_reads_13 rfl (lv_at hl 0 rfl) ?_
  refine lv_iconst (v := 0) C.1 C.2.1 dX8_reads_14 (by decide) ?_
  refine mp_26 C hI dX8_reads_15 (fun H locs hI => ?_)
  have hs := gv_be hs
  refine lv_aload_n C.1 C.2.1 dX8_reads_18 rfl (lv_at hl 0 rfl) ?_
  refine lv_iconst (v := 0) C.1 C.2.1 dX8_reads_19 (by decide) ?_
  refine mp_27 C hI dX8_reads_20 (fun H locs hI => ?_)
  have hs := gv_be hs
  refine lv_aload_n C.1 C.2.1 dX8_reads_23 rfl (lv_at hl 0 rfl) ?_
  refine lv_iconst (v := -1) C.1 C.2.1 dX8_reads_24 (by decide) ?_
  refine mp_28 C hI dX8_reads_25 (fun H locs hI => ?_)
  have hs := gv_be hs
  refine lv_aload_n C.1 C.2.1 dX8_reads_28 rfl (lv_at hl 0 rfl) ?_
  obtain ⟨I, hc, hs⟩ := bd_e hs
  refine M_call C hI (kX8_readClause l D cy q _ _ _ _ _ hc) ml_X8_231 im_X8_readClause se_X8_readClause ini_X8 co_X8_readClause hyX8_readClause rfl ⟨by decide, by decide⟩ hl.1 rfl (Nat.le_of_ble_eq_true rfl) dX8_reads_29 (fun H locs hI => ?_)
  refine lv_iconst (v := 1) C.1 C.2.1 dX8_reads_32 (by decide) ?_
  refine lv_istore_n (lv' := [(1, .int (1 : Int32)), (0, .ref (q 46))]) C.1 C.2.1 dX8_reads_33 rfl hl (by decide) rfl (fun ls hl => ?_)
  have KL_34 : ∀ (n : Nat) (x1 : Int32) (I : Nat → Int32) (J : Nat → Int64) (A : Nat → Nat → Int32) (B : Nat → Nat → Int64) (o : (Nat → Int32)) (Q : State → Prop) (H : Heap) (locs : List Loc) (ls : Array Slot), lX8_reads_34 n x1 I J A B = some o → MI D cy s s.heap H locs q I J A B → lv_has ls 2 [(0, .ref (q 46)), (1, .int x1)] → (∀ (I_0 : Nat → Int32) (H : Heap) (locs : List Loc) (ls : Array Slot), o = I_0 → MI D cy s s.heap H locs q I_0 J A B → lv_has ls 2 [(0, .ref (q 46))] → W p l e (rmL 67) s m args below meth c H locs 0 0 Q (F0 m 73 ls [])) → W p l e (rmL 67) s m args below meth c H locs 0 0 Q (F0 m 34 ls []) := by
    intro n; induction n with
    | zero => intro x1 I J A B o Q H locs ls hs; rw [lX8_reads_34] at hs; cases hs
    | succ n ih =>
      intro x1 I J A B o Q H locs ls hs hI hl kk0
      rw [lX8_reads_34] at hs
      refine lv_aload_n C.1 C.2.1 dX8_reads_34 rfl (lv_at hl 0 rfl) ?_
      refine lv_bipush (v := 59) C.1 C.2.1 dX8_reads_35 (by decide) ?_
      obtain ⟨r_37, hc, hs⟩ := bd_e hs
      refine S_call (h := 67) C (kX8_sign l _ _ hc) ml_X8_215 st_X8_sign ini_X8 co_X8_sign hyX8_sign rfl ⟨by decide, by decide⟩ hl.1 rfl (Nat.le_of_ble_eq_true rfl) dX8_reads_37 ⟨Nat.le_refl 0, Nat.le_refl 0, Nat.le_refl _, Nat.le_refl _⟩ ?_
      obtain ⟨⟨r_40, I⟩, hc, hs⟩ := bd_e hs
      refine M_call C hI (kX8_takes l D cy q _ _ _ _ _ _ _ hc) ml_X8_190 im_X8_takes se_X8_takes ini_X8 co_X8_takes hyX8_takes rfl ⟨by decide, by decide⟩ hl.1 rfl (Nat.le_of_ble_eq_true rfl) dX8_reads_40 (fun H locs hI => ?_)
      refine lv_if_eq (tgt := 73) C.1 C.2.1 dX8_reads_43 (by decide) (fun cn => ?_) (fun cn => ?_)
      · have hs := if_t cn hs
        have eo := (Option.some.inj hs).symm
        exact kk0 _ _ _ _ eo hI (lv_sub hl [0] rfl)
      · have hs := if_f cn hs
        refine lv_iload_n C.1 C.2.1 dX8_reads_46 rfl (lv_at hl 1 rfl) ?_
        refine lv_bipush (v := 12) C.1 C.2.1 dX8_reads_47 (by decide) ?_
        obtain ⟨k_56, ek_56, hs⟩ := gv_ex hs
        have KJ_56 : ∀ (I : Nat → Int32) (H : Heap) (locs : List Loc) (ls : Array Slot), k_56 I = some o → MI D cy s s.heap H locs q I J A B → lv_has ls 2 [(0, .ref (q 46)), (1, .int x1)] → W p l e (rmL 67) s m args below meth c H locs 0 0 Q (F0 m 56 ls []) := by
          intro I H locs ls hs hI hl
          rw [ek_56] at hs
          refine lv_aload_n C.1 C.2.1 dX8_reads_56 rfl (lv_at hl 0 rfl) ?_
          obtain ⟨r_57, hc, hs⟩ := bd_e hs
          refine M_call C hI (kX8_fine l D cy q _ _ _ _ _ hc) ml_X8_183 im_X8_fine se_X8_fine ini_X8 co_X8_fine hyX8_fine rfl ⟨by decide, by decide⟩ hl.1 rfl (Nat.le_of_ble_eq_true rfl) dX8_reads_57 (fun H locs hI => ?_)
          refine lv_if_eq (tgt := 67) C.1 C.2.1 dX8_reads_60 (by decide) (fun cn => ?_) (fun cn => ?_)
          · have hs := if_t cn hs
            obtain ⟨x1_67, ex1_67⟩ : ∃ y : Int32, y = (x1 + 1) := ⟨_, rfl⟩
            have hs := gv_at ex1_67 hs
            refine lv_iinc (v := x1_67) (lv' := [(1, .int x1_67), (0, .ref (q 46))]) C.1 C.2.1 dX8_reads_67 hl (k := 1) rfl (by rw [ex1_67]; rfl) (by decide) rfl (fun ls hl => ?_)
            refine lv_goto (tgt := 34) C.1 C.2.1 dX8_reads_70 (by decide) ?_
            exact ih _ _ _ _ _ _ _ _ _ _ hs hI (lv_sub hl [1, 0] rfl) kk0
          · have hs := if_f cn hs
            refine lv_aload_n C.1 C.2.1 dX8_reads_63 rfl (lv_at hl 0 rfl) ?_
            obtain ⟨I, hc, hs⟩ := bd_e hs
            refine M_call C hI (kX8_readClause l D cy q _ _ _ _ _ hc) ml_X8_231 im_X8_readClause se_X8_readClause ini_X8 co_X8_readClause hyX8_readClause rfl ⟨by decide, by decide⟩ hl.1 rfl (Nat.le_of_ble_eq_true rfl) dX8_reads_64 (fun H locs hI => ?_)
            obtain ⟨x1_67, ex1_67⟩ : ∃ y : Int32, y = (x1 + 1) := ⟨_, rfl⟩
            have hs := gv_at ex1_67 hs
            refine lv_iinc (v := x1_67) (lv' := [(1, .int x1_67), (0, .ref (q 46))]) C.1 C.2.1 dX8_reads_67 hl (k := 1) rfl (by rw [ex1_67]; rfl) (by decide) rfl (fun ls hl => ?_)
            refine lv_goto (tgt := 34) C.1 C.2.1 dX8_reads_70 (by decide) ?_
            exact ih _ _ _ _ _ _ _ _ _ _ hs hI (lv_sub hl [1, 0] rfl) kk0
        refine lv_icmp_ne (tgt := 56) C.1 C.2.1 dX8_reads_49 (by decide) (fun cn => ?_) (fun cn => ?_)
        · have hs := if_f cn hs
          exact KJ_56 _ _ _ _ hs hI (lv_sub hl [0, 1] rfl)
        · have hs := if_t cn hs
          refine lv_aload_n C.1 C.2.1 dX8_reads_52 rfl (lv_at hl 0 rfl) ?_
          obtain ⟨I, hc, hs⟩ := bd_e hs
          refine M_call C hI (kX8_faults l D cy q _ _ _ _ _ hc) ml_X8_193 im_X8_faults se_X8_faults ini_X8 co_X8_faults hyX8_faults rfl ⟨by decide, by decide⟩ hl.1 rfl (Nat.le_of_ble_eq_true rfl) dX8_reads_53 (fun H locs hI => ?_)
          exact KJ_56 _ _ _ _ hs hI (lv_sub hl [0, 1] rfl)
  obtain ⟨I_L, hL, hs⟩ := bd_e hs
  refine KL_34 FU _ _ _ _ _ _ _ _ _ _ hL hI (lv_sub hl [1, 0] rfl) (fun z0 H locs ls eo hI hl => ?_)
  subst eo
  refine lv_aload_n C.1 C.2.1 dX8_reads_73 rfl (lv_at hl 0 rfl) ?_
  obtain ⟨r_74, hc, hs⟩ := bd_e hs
  refine M_call C hI (kX8_fine l D cy q _ _ _ _ _ hc) ml_X8_183 im_X8_fine se_X8_fine ini_X8 co_X8_fine hyX8_fine rfl ⟨by decide, by decide⟩ hl.1 rfl (Nat.le_of_ble_eq_true rfl) dX8_reads_74 (fun H locs hI => ?_)
  refine lv_if_eq (tgt := 95) C.1 C.2.1 dX8_reads_77 (by decide) (fun cn => ?_) (fun cn => ?_)
  · have hs := if_t cn hs
    refine lv_aload_n C.1 C.2.1 dX8_reads_95 rfl (lv_at hl 0 rfl) ?_
    refine lv_aload_n C.1 C.2.1 dX8_reads_96 rfl (lv_at hl 0 rfl) ?_
    refine mg_28 C hI dX8_reads_97 ?_
    refine mp_21 C hI dX8_reads_100 (fun H locs hI => ?_)
    have hs := gv_be hs
    refine lv_aload_n C.1 C.2.1 dX8_reads_103 rfl (lv_at hl 0 rfl) ?_
    obtain ⟨r_104, hc, hs⟩ := bd_e hs
    refine M_call C hI (kX8_fine l D cy q _ _ _ _ _ hc) ml_X8_183 im_X8_fine se_X8_fine ini_X8 co_X8_fine hyX8_fine rfl ⟨by decide, by decide⟩ hl.1 rfl (Nat.le_of_ble_eq_true rfl) dX8_reads_104 (fun H locs hI => ?_)
    obtain ⟨hb, hs⟩ := ck_e hs
    obtain ⟨rfl, rfl, rfl⟩ := so3 hs
    exact M_zret C hI hb dX8_reads_107
  · have hs := if_f cn hs
    refine lv_aload_n C.1 C.2.1 dX8_reads_80 rfl (lv_at hl 0 rfl) ?_
    refine mg_26 C hI dX8_reads_81 ?_
    refine lv_aload_n C.1 C.2.1 dX8_reads_84 rfl (lv_at hl 0 rfl) ?_
    refine mg_25 C hI dX8_reads_85 ?_
    refine lv_icmp_ge (tgt := 95) C.1 C.2.1 dX8_reads_88 (by decide) (fun cn => ?_) (fun cn => ?_)
    · have hs := if_t cn hs
      refine lv_aload_n C.1 C.2.1 dX8_reads_95 rfl (lv_at hl 0 rfl) ?_
      refine lv_aload_n C.1 C.2.1 dX8_reads_96 rfl (lv_at hl 0 rfl) ?_
      refine mg_28 C hI dX8_reads_97 ?_
      refine mp_21 C hI dX8_reads_100 (fun H locs hI => ?_)
      have hs := gv_be hs
      refine lv_aload_n C.1 C.2.1 dX8_reads_103 rfl (lv_at hl 0 rfl) ?_
      obtain ⟨r_104, hc, hs⟩ := bd_e hs
      refine M_call C hI (kX8_fine l D cy q _ _ _ _ _ hc) ml_X8_183 im_X8_fine se_X8_fine ini_X8 co_X8_fine hyX8_fine rfl ⟨by decide, by decide⟩ hl.1 rfl (Nat.le_of_ble_eq_true rfl) dX8_reads_104 (fun H locs hI => ?_)
      obtain ⟨hb, hs⟩ := ck_e hs
      obtain ⟨rfl, rfl, rfl⟩ := so3 hs
      exact M_zret C hI hb dX8_reads_107
    · have hs := if_f cn hs
      refine lv_aload_n C.1 C.2.1 dX8_reads_91 rfl (lv_at hl 0 rfl) ?_
      obtain ⟨I, hc, hs⟩ := bd_e hs
      refine M_call C hI (kX8_faults l D cy q _ _ _ _ _ hc) ml_X8_193 im_X8_faults se_X8_faults ini_X8 co_X8_faults hyX8_faults rfl ⟨by decide, by decide⟩ hl.1 rfl (Nat.le_of_ble_eq_true rfl) dX8_reads_92 (fun H locs hI => ?_)
      refine lv_aload_n C.1 C.2.1 dX8_reads_95 rfl (lv_at hl 0 rfl) ?_
      refine lv_aload_n C.1 C.2.1 dX8_reads_96 rfl (lv_at hl 0 rfl) ?_
      refine mg_28 C hI dX8_reads_97 ?_
      refine mp_21 C hI dX8_reads_100 (fun H locs hI => ?_)
      have hs := gv_be hs
      refine lv_aload_n C.1 C.2.1 dX8_reads_103 rfl (lv_at hl 0 rfl) ?_
      obtain ⟨r_104, hc, hs⟩ := bd_e hs
      refine M_call C hI (kX8_fine l D cy q _ _ _ _ _ hc) ml_X8_183 im_X8_fine se_X8_fine ini_X8 co_X8_fine hyX8_fine rfl ⟨by decide, by decide⟩ hl.1 rfl (Nat.le_of_ble_eq_true rfl) dX8_reads_104 (fun H locs hI => ?_)
      obtain ⟨hb, hs⟩ := ck_e hs
      obtain ⟨rfl, rfl, rfl⟩ := so3 hs
      exact M_zret C hI hb dX8_reads_107

def lX8_rule_64 : Nat → Int32 → Int32 → (Nat → Int32) → (Nat → Int64) → (Nat → Nat → Int32) → (Nat → Nat → Int64) → Option ((Nat → Nat → Int32))
  | 0, _, _, _, _, _, _ => none
  | n + 1, x1, x2, I, J, A, B =>
    if (I 25) ≤ x2 then
    (some A)
    else
    ck (inB x2 401) <|
    ck (inB (((1647 : Int32) + ((400 : Int32) * x1)) + x2) 8047) <|
    gv (va_up A 1 (upd (A 1) (ix (((1647 : Int32) + ((400 : Int32) * x1)) + x2)) (A 22 (ix x2)))) fun A =>
    ck (inB x2 401) <|
    ck (inB (((4847 : Int32) + ((400 : Int32) * x1)) + x2) 8047) <|
    gv (va_up A 1 (upd (A 1) (ix (((4847 : Int32) + ((400 : Int32) * x1)) + x2)) (A 23 (ix x2)))) fun A =>
    gv (x2 + 1) fun x2_116 =>
    lX8_rule_64 n x1 x2_116 I J A B
def sX8_rule (I : Nat → Int32) (J : Nat → Int64) (A : Nat → Nat → Int32) (B : Nat → Nat → Int64) : Option ((Int32) × (Nat → Int32) × (Nat → Nat → Int32)) :=
if (A 1 (ix (1634 : Int32))) = (8 : Int32) then
(gv (upd I 20 (0 : Int32)) fun I =>
(sX8_refuses (-5 : Int32) I J A B).bind fun (r_21, I) =>
some (r_21, I, A))
else
(sX8_reads  I J A B).bind fun (r_26, I, A) =>
if r_26 = 0 then
((sX8_refuses (-6 : Int32) I J A B).bind fun (r_35, I) =>
some (r_35, I, A))
else
gv (A 1 (ix (1634 : Int32))) fun x1_47 =>
ck (inB ((1639 : Int32) + x1_47) 8047) <|
gv (va_up A 1 (upd (A 1) (ix ((1639 : Int32) + x1_47)) (I 25))) fun A =>
(lX8_rule_64 FU x1_47 (0 : Int32) I J A B).bind fun A =>
gv (va_up A 1 (upd (A 1) (ix (1634 : Int32)) ((A 1 (ix (1634 : Int32))) + (1 : Int32)))) fun A =>
(sX8_good x1_47 I J A B).bind fun (r_136, I) =>
some (r_136, I, A)
set_option maxRecDepth 100000 in
set_option maxHeartbeats 8000000 in
theorem kX8_rule (l : Launch) (D : va_G) (cy : Nat → ClassId) (q : Nat → Nat) (I : Nat → Int32) (J : Nat → Int64) (A : Nat → Nat → Int32) (B : Nat → Nat → Int64) (r : Int32) (I2 : Nat → Int32) (A2 : Nat → Nat → Int32) (hs : sX8_rule I J A B = some (r, I2, A2)) : McI l yX8_rule cX8_rule 3 (some .int) 68 [.ref (q 46)] D cy q I J A B (some (.int r)) I2 J A2 B := by
  refine M_start rfl rfl (Nat.le_of_ble_eq_true rfl) ?_
  intro p e s m args below meth c H locs C hI ls hl
  have hl : lv_has ls 3 [(0, .ref (q 46))] := hl
  rw [sX8_rule] at hs
  refine lv_aload_n C.1 C.2.1 dX8_rule_0 rfl (lv_at hl 0 rfl) ?_
  refine mg_1 C hI dX8_rule_1 ?_
  refine lv_sipush (v := 1634) C.1 C.2.1 dX8_rule_4 (by decide) ?_
  refine ma_1 C hI (by decide) dX8_rule_7 ?_
  refine lv_bipush (v := 8) C.1 C.2.1 dX8_rule_8 (by decide) ?_
  refine lv_icmp_ne (tgt := 25) C.1 C.2.1 dX8_rule_10 (by decide) (fun cn => ?_) (fun cn => ?_)
  · have hs := if_f cn hs
    refine lv_aload_n C.1 C.2.1 dX8_rule_25 rfl (lv_at hl 0 rfl) ?_
    obtain ⟨⟨r_26, I, A⟩, hc, hs⟩ := bd_e hs
    refine M_call C hI (kX8_reads l D cy q _ _ _ _ _ _ _ hc) ml_X8_234 im_X8_reads se_X8_reads ini_X8 co_X8_reads hyX8_reads rfl ⟨by decide, by decide⟩ hl.1 rfl (Nat.le_of_ble_eq_true rfl) dX8_rule_26 (fun H locs hI => ?_)
    refine lv_if_ne (tgt := 39) C.1 C.2.1 dX8_rule_29 (by decide) (fun cn => ?_) (fun cn => ?_)
    · have hs := if_f cn hs
      refine lv_aload_n C.1 C.2.1 dX8_rule_39 rfl (lv_at hl 0 rfl) ?_
      refine mg_1 C hI dX8_rule_40 ?_
      refine lv_sipush (v := 1634) C.1 C.2.1 dX8_rule_43 (by decide) ?_
      refine ma_1 C hI (by decide) dX8_rule_46 ?_
      refine lv_topi (fun x1_47 ex1_47 => ?_)
      have hs := gv_at ex1_47 hs
      refine lv_istore_n (lv' := [(1, .int x1_47), (0, .ref (q 46))]) C.1 C.2.1 dX8_rule_47 rfl hl (by decide) rfl (fun ls hl => ?_)
      refine lv_aload_n C.1 C.2.1 dX8_rule_48 rfl (lv_at hl 1 rfl) ?_
      refine mg_1 C hI dX8_rule_49 ?_
      refine lv_sipush (v := 1639) C.1 C.2.1 dX8_rule_52 (by decide) ?_
      refine lv_iload_n C.1 C.2.1 dX8_rule_55 rfl (lv_at hl 0 rfl) ?_
      refine lv_iadd C.1 C.2.1 dX8_rule_56 ?_
      refine lv_aload_n C.1 C.2.1 dX8_rule_57 rfl (lv_at hl 1 rfl) ?_
      refine mg_25 C hI dX8_rule_58 ?_
      obtain ⟨hk, hs⟩ := ck_e hs
      refine ms_1 C hI hk dX8_rule_61 (fun H locs hI => ?_)
      have hs := gv_be hs
      refine lv_iconst (v := 0) C.1 C.2.1 dX8_rule_62 (by decide) ?_
      refine lv_istore_n (lv' := [(2, .int (0 : Int32)), (1, .int x1_47), (0, .ref (q 46))]) C.1 C.2.1 dX8_rule_63 rfl hl (by decide) rfl (fun ls hl => ?_)
      have KL_64 : ∀ (n : Nat) (x1 : Int32) (x2 : Int32) (I : Nat → Int32) (J : Nat → Int64) (A : Nat → Nat → Int32) (B : Nat → Nat → Int64) (o : (Nat → Nat → Int32)) (Q : State → Prop) (H : Heap) (locs : List Loc) (ls : Array Slot), lX8_rule_64 n x1 x2 I J A B = some o → MI D cy s s.heap H locs q I J A B → lv_has ls 3 [(0, .ref (q 46)), (1, .int x1), (2, .int x2)] → (∀ (A_0 : Nat → Nat → Int32) (H : Heap) (locs : List Loc) (ls : Array Slot), o = A_0 → MI D cy s s.heap H locs q I J A_0 B → lv_has ls 3 [(0, .ref (q 46)), (1, .int x1)] → W p l e (rmL 68) s m args below meth c H locs 0 0 Q (F0 m 122 ls [])) → W p l e (rmL 68) s m args below meth c H locs 0 0 Q (F0 m 64 ls []) := by
        intro n; induction n with
        | zero => intro x1 x2 I J A B o Q H locs ls hs; rw [lX8_rule_64] at hs; cases hs
        | succ n ih =>
          intro x1 x2 I J A B o Q H locs ls hs hI hl kk0
          rw [lX8_rule_64] at hs
          refine lv_iload_n C.1 C.2.1 dX8_rule_64 rfl (lv_at hl 2 rfl) ?_
          refine lv_aload_n C.1 C.2.1 dX8_rule_65 rfl (lv_at hl 0 rfl) ?_
          refine mg_25 C hI dX8_rule_66 ?_
          refine lv_icmp_ge (tgt := 122) C.1 C.2.1 dX8_rule_69 (by decide) (fun cn => ?_) (fun cn => ?_)
          · have hs := if_t cn hs
            have eo := (Option.some.inj hs).symm
            exact kk0 _ _ _ _ eo hI (lv_sub hl [0, 1] rfl)
          · have hs := if_f cn hs
            refine lv_aload_n C.1 C.2.1 dX8_rule_72 rfl (lv_at hl 0 rfl) ?_
            refine mg_1 C hI dX8_rule_73 ?_
            refine lv_sipush (v := 1647) C.1 C.2.1 dX8_rule_76 (by decide) ?_
            refine lv_sipush (v := 400) C.1 C.2.1 dX8_rule_79 (by decide) ?_
            refine lv_iload_n C.1 C.2.1 dX8_rule_82 rfl (lv_at hl 1 rfl) ?_
            refine lv_imul C.1 C.2.1 dX8_rule_83 ?_
            refine lv_iadd C.1 C.2.1 dX8_rule_84 ?_
            refine lv_iload_n C.1 C.2.1 dX8_rule_85 rfl (lv_at hl 2 rfl) ?_
            refine lv_iadd C.1 C.2.1 dX8_rule_86 ?_
            refine lv_aload_n C.1 C.2.1 dX8_rule_87 rfl (lv_at hl 0 rfl) ?_
            refine mg_22 C hI dX8_rule_88 ?_
            refine lv_iload_n C.1 C.2.1 dX8_rule_91 rfl (lv_at hl 2 rfl) ?_
            obtain ⟨hk, hs⟩ := ck_e hs
            refine ma_22 C hI hk dX8_rule_92 ?_
            obtain ⟨hk, hs⟩ := ck_e hs
            refine ms_1 C hI hk dX8_rule_93 (fun H locs hI => ?_)
            have hs := gv_be hs
            refine lv_aload_n C.1 C.2.1 dX8_rule_94 rfl (lv_at hl 0 rfl) ?_
            refine mg_1 C hI dX8_rule_95 ?_
            refine lv_sipush (v := 4847) C.1 C.2.1 dX8_rule_98 (by decide) ?_
            refine lv_sipush (v := 400) C.1 C.2.1 dX8_rule_101 (by decide) ?_
            refine lv_iload_n C.1 C.2.1 dX8_rule_104 rfl (lv_at hl 1 rfl) ?_
            refine lv_imul C.1 C.2.1 dX8_rule_105 ?_
            refine lv_iadd C.1 C.2.1 dX8_rule_106 ?_
            refine lv_iload_n C.1 C.2.1 dX8_rule_107 rfl (lv_at hl 2 rfl) ?_
            refine lv_iadd C.1 C.2.1 dX8_rule_108 ?_
            refine lv_aload_n C.1 C.2.1 dX8_rule_109 rfl (lv_at hl 0 rfl) ?_
            refine mg_23 C hI dX8_rule_110 ?_
            refine lv_iload_n C.1 C.2.1 dX8_rule_113 rfl (lv_at hl 2 rfl) ?_
            obtain ⟨hk, hs⟩ := ck_e hs
            refine ma_23 C hI hk dX8_rule_114 ?_
            obtain ⟨hk, hs⟩ := ck_e hs
            refine ms_1 C hI hk dX8_rule_115 (fun H locs hI => ?_)
            have hs := gv_be hs
            obtain ⟨x2_116, ex2_116⟩ : ∃ y : Int32, y = (x2 + 1) := ⟨_, rfl⟩
            have hs := gv_at ex2_116 hs
            refine lv_iinc (v := x2_116) (lv' := [(2, .int x2_116), (0, .ref (q 46)), (1, .int x1)]) C.1 C.2.1 dX8_rule_116 hl (k := 2) rfl (by rw [ex2_116]; rfl) (by decide) rfl (fun ls hl => ?_)
            refine lv_goto (tgt := 64) C.1 C.2.1 dX8_rule_119 (by decide) ?_
            exact ih _ _ _ _ _ _ _ _ _ _ _ hs hI (lv_sub hl [1, 2, 0] rfl) kk0
      obtain ⟨A_L, hL, hs⟩ := bd_e hs
      refine KL_64 FU _ _ _ _ _ _ _ _ _ _ _ hL hI (lv_sub hl [2, 1, 0] rfl) (fun z0 H locs ls eo hI hl => ?_)
      subst eo
      refine lv_aload_n C.1 C.2.1 dX8_rule_122 rfl (lv_at hl 0 rfl) ?_
      refine mg_1 C hI dX8_rule_123 ?_
      refine lv_sipush (v := 1634) C.1 C.2.1 dX8_rule_126 (by decide) ?_
      refine lv_dup2_11 C.1 C.2.1 dX8_rule_129 rfl rfl ?_
      refine ma_1 C hI (by decide) dX8_rule_130 ?_
      refine lv_iconst (v := 1) C.1 C.2.1 dX8_rule_131 (by decide) ?_
      refine lv_iadd C.1 C.2.1 dX8_rule_132 ?_
      refine ms_1 C hI (by decide) dX8_rule_133 (fun H locs hI => ?_)
      have hs := gv_be hs
      refine lv_aload_n C.1 C.2.1 dX8_rule_134 rfl (lv_at hl 0 rfl) ?_
      refine lv_iload_n C.1 C.2.1 dX8_rule_135 rfl (lv_at hl 1 rfl) ?_
      obtain ⟨⟨r_136, I⟩, hc, hs⟩ := bd_e hs
      refine M_call C hI (kX8_good l D cy q _ _ _ _ _ _ _ hc) ml_X8_91 im_X8_good se_X8_good ini_X8 co_X8_good hyX8_good rfl ⟨by decide, by decide⟩ hl.1 rfl (Nat.le_of_ble_eq_true rfl) dX8_rule_136 (fun H locs hI => ?_)
      obtain ⟨rfl, rfl, rfl⟩ := so3 hs
      exact M_iret C hI dX8_rule_139
    · have hs := if_t cn hs
      refine lv_aload_n C.1 C.2.1 dX8_rule_32 rfl (lv_at hl 0 rfl) ?_
      refine lv_bipush (v := -6) C.1 C.2.1 dX8_rule_33 (by decide) ?_
      obtain ⟨⟨r_35, I⟩, hc, hs⟩ := bd_e hs
      refine M_call C hI (kX8_refuses l D cy q _ _ _ _ _ _ _ hc) ml_X8_87 im_X8_refuses se_X8_refuses ini_X8 co_X8_refuses hyX8_refuses rfl ⟨by decide, by decide⟩ hl.1 rfl (Nat.le_of_ble_eq_true rfl) dX8_rule_35 (fun H locs hI => ?_)
      obtain ⟨rfl, rfl, rfl⟩ := so3 hs
      exact M_iret C hI dX8_rule_38
  · have hs := if_t cn hs
    refine lv_aload_n C.1 C.2.1 dX8_rule_13 rfl (lv_at hl 0 rfl) ?_
    refine lv_iconst (v := 0) C.1 C.2.1 dX8_rule_14 (by decide) ?_
    refine mp_20 C hI dX8_rule_15 (fun H locs hI => ?_)
    have hs := gv_be hs
    refine lv_aload_n C.1 C.2.1 dX8_rule_18 rfl (lv_at hl 0 rfl) ?_
    refine lv_bipush (v := -5) C.1 C.2.1 dX8_rule_19 (by decide) ?_
    obtain ⟨⟨r_21, I⟩, hc, hs⟩ := bd_e hs
    refine M_call C hI (kX8_refuses l D cy q _ _ _ _ _ _ _ hc) ml_X8_87 im_X8_refuses se_X8_refuses ini_X8 co_X8_refuses hyX8_refuses rfl ⟨by decide, by decide⟩ hl.1 rfl (Nat.le_of_ble_eq_true rfl) dX8_rule_21 (fun H locs hI => ?_)
    obtain ⟨rfl, rfl, rfl⟩ := so3 hs
    exact M_iret C hI dX8_rule_24

def lX8_asks_43 : Nat → (Nat → Int32) → (Nat → Int64) → (Nat → Nat → Int32) → (Nat → Nat → Int64) → Option ((Nat → Int32) × (Nat → Int64))
  | 0, _, _, _, _ => none
  | n + 1, I, J, A, B =>
    if (I 30) ≤ (I 29) then
    (some (I, J))
    else
    gv (upd I 31 (0 : Int32)) fun I =>
    (sX8_codeAt (I 29) I J A B).bind fun r_64 =>
    gv (upd I 29 ((I 29) + (1 : Int32))) fun I =>
    gv (fun (y0_j92 : Int64) (I : Nat → Int32) (J : Nat → Int64) =>
    gv (I 31) fun x5_97 =>
    gv (upd I 31 (0 : Int32)) fun I =>
    (sX8_passes (4 : Int32) I J A B).bind fun (r_106, I) =>
    gv (fun (y0_j125 : Int32) (I : Nat → Int32) (J : Nat → Int64) =>
    gv (fun (y0_j149 : Int32) (I : Nat → Int32) (J : Nat → Int64) =>
    gv (upd I 29 ((I 29) + (1 : Int32))) fun I =>
    if y0_j149 = 0 then
    (lX8_asks_43 n I J A B)
    else
    gv (fun (I : Nat → Int32) (J : Nat → Int64) =>
    gv (fun (I : Nat → Int32) (J : Nat → Int64) =>
    gv (fun (y1_j207 : Int32) (I : Nat → Int32) (J : Nat → Int64) =>
    ck (isB y1_j207) <|
    gv (upd I 36 y1_j207) fun I =>
    gv (fun (y1_j228 : Int32) (I : Nat → Int32) (J : Nat → Int64) =>
    ck (isB y1_j228) <|
    gv (upd I 37 y1_j228) fun I =>
    gv (if (I 38) = 0 then (if r_64 = (3 : Int32) then (1 : Int32) else (0 : Int32)) else (1 : Int32)) fun v_249 =>
    ck (isB v_249) <|
    gv (upd I 38 v_249) fun I =>
    lX8_asks_43 n I J A B) fun k_228 =>
    gv (fun (I : Nat → Int32) (J : Nat → Int64) =>
    k_228 (1 : Int32) I J) fun k_223 =>
    if (I 37) = 0 then
    (if r_64 = (2 : Int32) then
    (k_223 I J)
    else
    k_228 (0 : Int32) I J)
    else
    k_223 I J) fun k_207 =>
    gv (fun (I : Nat → Int32) (J : Nat → Int64) =>
    k_207 (1 : Int32) I J) fun k_202 =>
    if (I 36) = 0 then
    (if r_64 = (1 : Int32) then
    (k_202 I J)
    else
    k_207 (0 : Int32) I J)
    else
    k_202 I J) fun k_189 =>
    if r_64 = (2 : Int32) then
    (gv (vp_updL J 35 y0_j92) fun J =>
    k_189 I J)
    else
    k_189 I J) fun k_179 =>
    if r_64 = (1 : Int32) then
    (gv (vp_updL J 34 y0_j92) fun J =>
    k_179 I J)
    else
    k_179 I J) fun k_149 =>
    gv (fun (I : Nat → Int32) (J : Nat → Int64) =>
    k_149 (0 : Int32) I J) fun k_148 =>
    if y0_j125 = 0 then
    (k_148 I J)
    else
    if (I 31) = 0 then
    (if x5_97 = 0 then
    (k_149 (1 : Int32) I J)
    else
    k_148 I J)
    else
    k_148 I J) fun k_125 =>
    gv (fun (I : Nat → Int32) (J : Nat → Int64) =>
    k_125 (1 : Int32) I J) fun k_120 =>
    if r_106 = 0 then
    (k_120 I J)
    else
    (sX8_testOf 10 (1 : Int32) I J A B).bind fun (r_114, I) =>
    if r_114 = 0 then
    (k_125 (0 : Int32) I J)
    else
    k_120 I J) fun k_92 =>
    if r_64 = (3 : Int32) then
    (k_92 (0 : Int64) I J)
    else
    (sX8_sumOf 10 (1 : Int32) I J A B).bind fun (r_89, I) =>
    k_92 r_89 I J
def sX8_asks (x1 : Int32) (I : Nat → Int32) (J : Nat → Int64) (A : Nat → Nat → Int32) (B : Nat → Nat → Int64) : Option ((Nat → Int32) × (Nat → Int64)) :=
gv (upd I 29 ((400 : Int32) * x1)) fun I =>
ck (inB ((1639 : Int32) + x1) 8047) <|
gv (upd I 30 ((I 29) + (A 1 (ix ((1639 : Int32) + x1))))) fun I =>
gv (upd I 36 (0 : Int32)) fun I =>
gv (upd I 37 (0 : Int32)) fun I =>
gv (upd I 38 (0 : Int32)) fun I =>
(lX8_asks_43 FU I J A B).bind fun (I, J) =>
some (I, J)
set_option maxRecDepth 100000 in
set_option maxHeartbeats 8000000 in
theorem kX8_asks (l : Launch) (D : va_G) (cy : Nat → ClassId) (q : Nat → Nat) (x1 : Int32) (I : Nat → Int32) (J : Nat → Int64) (A : Nat → Nat → Int32) (B : Nat → Nat → Int64) (I2 : Nat → Int32) (J2 : Nat → Int64) (hs : sX8_asks x1 I J A B = some (I2, J2)) : McI l yX8_asks cX8_asks 7 none 76 [.ref (q 46), .int x1] D cy q I J A B none I2 J2 A B := by
  refine M_start rfl rfl (Nat.le_of_ble_eq_true rfl) ?_
  intro p e s m args below meth c H locs C hI ls hl
  have hl : lv_has ls 7 [(0, .ref (q 46)), (1, .int x1)] := hl
  rw [sX8_asks] at hs
  refine lv_aload_n C.1 C.2.1 dX8_asks_0 rfl (lv_at hl 0 rfl) ?_
  refine lv_sipush (v := 400) C.1 C.2.1 dX8_asks_1 (by decide) ?_
  refine lv_iload_n C.1 C.2.1 dX8_asks_4 rfl (lv_at hl 1 rfl) ?_
  refine lv_imul C.1 C.2.1 dX8_asks_5 ?_
  refine mp_29 C hI dX8_asks_6 (fun H locs hI => ?_)
  have hs := gv_be hs
  refine lv_aload_n C.1 C.2.1 dX8_asks_9 rfl (lv_at hl 0 rfl) ?_
  refine lv_aload_n C.1 C.2.1 dX8_asks_10 rfl (lv_at hl 0 rfl) ?_
  refine mg_29 C hI dX8_asks_11 ?_
  refine lv_aload_n C.1 C.2.1 dX8_asks_14 rfl (lv_at hl 0 rfl) ?_
  refine mg_1 C hI dX8_asks_15 ?_
  refine lv_sipush (v := 1639) C.1 C.2.1 dX8_asks_18 (by decide) ?_
  refine lv_iload_n C.1 C.2.1 dX8_asks_21 rfl (lv_at hl 1 rfl) ?_
  refine lv_iadd C.1 C.2.1 dX8_asks_22 ?_
  obtain ⟨hk, hs⟩ := ck_e hs
  refine ma_1 C hI hk dX8_asks_23 ?_
  refine lv_iadd C.1 C.2.1 dX8_asks_24 ?_
  refine mp_30 C hI dX8_asks_25 (fun H locs hI => ?_)
  have hs := gv_be hs
  refine lv_aload_n C.1 C.2.1 dX8_asks_28 rfl (lv_at hl 0 rfl) ?_
  refine lv_iconst (v := 0) C.1 C.2.1 dX8_asks_29 (by decide) ?_
  refine mp_36 C hI (by decide) dX8_asks_30 (fun H locs hI => ?_)
  have hs := gv_be hs
  refine lv_aload_n C.1 C.2.1 dX8_asks_33 rfl (lv_at hl 0 rfl) ?_
  refine lv_iconst (v := 0) C.1 C.2.1 dX8_asks_34 (by decide) ?_
  refine mp_37 C hI (by decide) dX8_asks_35 (fun H locs hI => ?_)
  have hs := gv_be hs
  refine lv_aload_n C.1 C.2.1 dX8_asks_38 rfl (lv_at hl 0 rfl) ?_
  refine lv_iconst (v := 0) C.1 C.2.1 dX8_asks_39 (by decide) ?_
  refine mp_38 C hI (by decide) dX8_asks_40 (fun H locs hI => ?_)
  have hs := gv_be hs
  have KL_43 : ∀ (n : Nat) (I : Nat → Int32) (J : Nat → Int64) (A : Nat → Nat → Int32) (B : Nat → Nat → Int64) (o : (Nat → Int32) × (Nat → Int64)) (Q : State → Prop) (H : Heap) (locs : List Loc) (ls : Array Slot), lX8_asks_43 n I J A B = some o → MI D cy s s.heap H locs q I J A B → lv_has ls 7 [(0, .ref (q 46))] → (∀ (I_0 : Nat → Int32) (J_0 : Nat → Int64) (H : Heap) (locs : List Loc) (ls : Array Slot), o = (I_0, J_0) → MI D cy s s.heap H locs q I_0 J_0 A B → lv_has ls 7 [] → W p l e (rmL 76) s m args below meth c H locs 0 0 Q (F0 m 255 ls [])) → W p l e (rmL 76) s m args below meth c H locs 0 0 Q (F0 m 43 ls []) := by
    intro n; induction n with
    | zero => intro I J A B o Q H locs ls hs; rw [lX8_asks_43] at hs; cases hs
    | succ n ih =>
      intro I J A B o Q H locs ls hs hI hl kk0
      rw [lX8_asks_43] at hs
      refine lv_aload_n C.1 C.2.1 dX8_asks_43 rfl (lv_at hl 0 rfl) ?_
      refine mg_29 C hI dX8_asks_44 ?_
      refine lv_aload_n C.1 C.2.1 dX8_asks_47 rfl (lv_at hl 0 rfl) ?_
      refine mg_30 C hI dX8_asks_48 ?_
      refine lv_icmp_ge (tgt := 255) C.1 C.2.1 dX8_asks_51 (by decide) (fun cn => ?_) (fun cn => ?_)
      · have hs := if_t cn hs
        have eo := (Option.some.inj hs).symm
        exact kk0 _ _ _ _ _ eo hI (lv_sub hl [] rfl)
      · have hs := if_f cn hs
        refine lv_aload_n C.1 C.2.1 dX8_asks_54 rfl (lv_at hl 0 rfl) ?_
        refine lv_iconst (v := 0) C.1 C.2.1 dX8_asks_55 (by decide) ?_
        refine mp_31 C hI (by decide) dX8_asks_56 (fun H locs hI => ?_)
        have hs := gv_be hs
        refine lv_aload_n C.1 C.2.1 dX8_asks_59 rfl (lv_at hl 0 rfl) ?_
        refine lv_aload_n C.1 C.2.1 dX8_asks_60 rfl (lv_at hl 0 rfl) ?_
        refine mg_29 C hI dX8_asks_61 ?_
        obtain ⟨r_64, hc, hs⟩ := bd_e hs
        refine M_call C hI (kX8_codeAt l D cy q _ _ _ _ _ _ hc) ml_X8_243 im_X8_codeAt se_X8_codeAt ini_X8 co_X8_codeAt hyX8_codeAt rfl ⟨by decide, by decide⟩ hl.1 rfl (Nat.le_of_ble_eq_true rfl) dX8_asks_64 (fun H locs hI => ?_)
        refine lv_istore_n (lv' := [(2, .int r_64), (0, .ref (q 46))]) C.1 C.2.1 dX8_asks_67 rfl hl (by decide) rfl (fun ls hl => ?_)
        refine lv_aload_n C.1 C.2.1 dX8_asks_68 rfl (lv_at hl 1 rfl) ?_
        refine lv_dup C.1 C.2.1 dX8_asks_69 rfl ?_
        refine mg_29 C hI dX8_asks_70 ?_
        refine lv_iconst (v := 1) C.1 C.2.1 dX8_asks_73 (by decide) ?_
        refine lv_iadd C.1 C.2.1 dX8_asks_74 ?_
        refine mp_29 C hI dX8_asks_75 (fun H locs hI => ?_)
        have hs := gv_be hs
        refine lv_iload_n C.1 C.2.1 dX8_asks_78 rfl (lv_at hl 0 rfl) ?_
        refine lv_iconst (v := 3) C.1 C.2.1 dX8_asks_79 (by decide) ?_
        obtain ⟨k_92, ek_92, hs⟩ := gv_ex hs
        have KJ_92 : ∀ (y0_j92 : Int64) (I : Nat → Int32) (J : Nat → Int64) (H : Heap) (locs : List Loc) (ls : Array Slot), k_92 y0_j92 I J = some o → MI D cy s s.heap H locs q I J A B → lv_has ls 7 [(0, .ref (q 46)), (2, .int r_64)] → W p l e (rmL 76) s m args below meth c H locs 0 0 Q (F0 m 92 ls [.long y0_j92]) := by
          intro y0_j92 I J H locs ls hs hI hl
          rw [ek_92] at hs
          refine lv_lstore_n (lv' := [(3, .long y0_j92), (0, .ref (q 46)), (2, .int r_64)]) C.1 C.2.1 dX8_asks_92 rfl hl (by decide) rfl (fun ls hl => ?_)
          refine lv_aload_n C.1 C.2.1 dX8_asks_93 rfl (lv_at hl 1 rfl) ?_
          refine mg_31 C hI dX8_asks_94 ?_
          refine lv_topi (fun x5_97 ex5_97 => ?_)
          have hs := gv_at ex5_97 hs
          refine lv_istore (lv' := [(5, .int x5_97), (3, .long y0_j92), (0, .ref (q 46)), (2, .int r_64)]) C.1 C.2.1 dX8_asks_97 hl (by decide) rfl (fun ls hl => ?_)
          refine lv_aload_n C.1 C.2.1 dX8_asks_99 rfl (lv_at hl 2 rfl) ?_
          refine lv_iconst (v := 0) C.1 C.2.1 dX8_asks_100 (by decide) ?_
          refine mp_31 C hI (by decide) dX8_asks_101 (fun H locs hI => ?_)
          have hs := gv_be hs
          refine lv_aload_n C.1 C.2.1 dX8_asks_104 rfl (lv_at hl 2 rfl) ?_
          refine lv_iconst (v := 4) C.1 C.2.1 dX8_asks_105 (by decide) ?_
          obtain ⟨⟨r_106, I⟩, hc, hs⟩ := bd_e hs
          refine M_call C hI (kX8_passes l D cy q _ _ _ _ _ _ _ hc) ml_X8_265 im_X8_passes se_X8_passes ini_X8 co_X8_passes hyX8_passes rfl ⟨by decide, by decide⟩ hl.1 rfl (Nat.le_of_ble_eq_true rfl) dX8_asks_106 (fun H locs hI => ?_)
          obtain ⟨k_125, ek_125, hs⟩ := gv_ex hs
          have KJ_125 : ∀ (y0_j125 : Int32) (I : Nat → Int32) (J : Nat → Int64) (H : Heap) (locs : List Loc) (ls : Array Slot), k_125 y0_j125 I J = some o → MI D cy s s.heap H locs q I J A B → lv_has ls 7 [(0, .ref (q 46)), (2, .int r_64), (3, .long y0_j92), (5, .int x5_97)] → W p l e (rmL 76) s m args below meth c H locs 0 0 Q (F0 m 125 ls [.int y0_j125]) := by
            intro y0_j125 I J H locs ls hs hI hl
            rw [ek_125] at hs
            refine lv_istore (lv' := [(6, .int y0_j125), (0, .ref (q 46)), (2, .int r_64), (3, .long y0_j92), (5, .int x5_97)]) C.1 C.2.1 dX8_asks_125 hl (by decide) rfl (fun ls hl => ?_)
            refine lv_iload C.1 C.2.1 dX8_asks_127 (lv_at hl 0 rfl) ?_
            obtain ⟨k_149, ek_149, hs⟩ := gv_ex hs
            have KJ_149 : ∀ (y0_j149 : Int32) (I : Nat → Int32) (J : Nat → Int64) (H : Heap) (locs : List Loc) (ls : Array Slot), k_149 y0_j149 I J = some o → MI D cy s s.heap H locs q I J A B → lv_has ls 7 [(0, .ref (q 46)), (2, .int r_64), (3, .long y0_j92)] → W p l e (rmL 76) s m args below meth c H locs 0 0 Q (F0 m 149 ls [.int y0_j149]) := by
              intro y0_j149 I J H locs ls hs hI hl
              rw [ek_149] at hs
              refine lv_istore (lv' := [(6, .int y0_j149), (0, .ref (q 46)), (2, .int r_64), (3, .long y0_j92)]) C.1 C.2.1 dX8_asks_149 hl (by decide) rfl (fun ls hl => ?_)
              refine lv_aload_n C.1 C.2.1 dX8_asks_151 rfl (lv_at hl 1 rfl) ?_
              refine lv_dup C.1 C.2.1 dX8_asks_152 rfl ?_
              refine mg_29 C hI dX8_asks_153 ?_
              refine lv_iconst (v := 1) C.1 C.2.1 dX8_asks_156 (by decide) ?_
              refine lv_iadd C.1 C.2.1 dX8_asks_157 ?_
              refine mp_29 C hI dX8_asks_158 (fun H locs hI => ?_)
              have hs := gv_be hs
              refine lv_iload C.1 C.2.1 dX8_asks_161 (lv_at hl 0 rfl) ?_
              refine lv_if_ne (tgt := 169) C.1 C.2.1 dX8_asks_163 (by decide) (fun cn => ?_) (fun cn => ?_)
              · have hs := if_f cn hs
                refine lv_iload_n C.1 C.2.1 dX8_asks_169 rfl (lv_at hl 2 rfl) ?_
                refine lv_iconst (v := 1) C.1 C.2.1 dX8_asks_170 (by decide) ?_
                obtain ⟨k_179, ek_179, hs⟩ := gv_ex hs
                have KJ_179 : ∀ (I : Nat → Int32) (J : Nat → Int64) (H : Heap) (locs : List Loc) (ls : Array Slot), k_179 I J = some o → MI D cy s s.heap H locs q I J A B → lv_has ls 7 [(0, .ref (q 46)), (2, .int r_64), (3, .long y0_j92)] → W p l e (rmL 76) s m args below meth c H locs 0 0 Q (F0 m 179 ls []) := by
                  intro I J H locs ls hs hI hl
                  rw [ek_179] at hs
                  refine lv_iload_n C.1 C.2.1 dX8_asks_179 rfl (lv_at hl 1 rfl) ?_
                  refine lv_iconst (v := 2) C.1 C.2.1 dX8_asks_180 (by decide) ?_
                  obtain ⟨k_189, ek_189, hs⟩ := gv_ex hs
                  have KJ_189 : ∀ (I : Nat → Int32) (J : Nat → Int64) (H : Heap) (locs : List Loc) (ls : Array Slot), k_189 I J = some o → MI D cy s s.heap H locs q I J A B → lv_has ls 7 [(0, .ref (q 46)), (2, .int r_64)] → W p l e (rmL 76) s m args below meth c H locs 0 0 Q (F0 m 189 ls []) := by
                    intro I J H locs ls hs hI hl
                    rw [ek_189] at hs
                    refine lv_aload_n C.1 C.2.1 dX8_asks_189 rfl (lv_at hl 0 rfl) ?_
                    refine lv_aload_n C.1 C.2.1 dX8_asks_190 rfl (lv_at hl 0 rfl) ?_
                    refine mg_36 C hI dX8_asks_191 ?_
                    obtain ⟨k_207, ek_207, hs⟩ := gv_ex hs
                    have KJ_207 : ∀ (y1_j207 : Int32) (I : Nat → Int32) (J : Nat → Int64) (H : Heap) (locs : List Loc) (ls : Array Slot), k_207 y1_j207 I J = some o → MI D cy s s.heap H locs q I J A B → lv_has ls 7 [(0, .ref (q 46)), (2, .int r_64)] → W p l e (rmL 76) s m args below meth c H locs 0 0 Q (F0 m 207 ls [.int y1_j207, .ref (q 46)]) := by
                      intro y1_j207 I J H locs ls hs hI hl
                      rw [ek_207] at hs
                      obtain ⟨hb, hs⟩ := ck_e hs
                      refine mp_36 C hI hb dX8_asks_207 (fun H locs hI => ?_)
                      have hs := gv_be hs
                      refine lv_aload_n C.1 C.2.1 dX8_asks_210 rfl (lv_at hl 0 rfl) ?_
                      refine lv_aload_n C.1 C.2.1 dX8_asks_211 rfl (lv_at hl 0 rfl) ?_
                      refine mg_37 C hI dX8_asks_212 ?_
                      obtain ⟨k_228, ek_228, hs⟩ := gv_ex hs
                      have KJ_228 : ∀ (y1_j228 : Int32) (I : Nat → Int32) (J : Nat → Int64) (H : Heap) (locs : List Loc) (ls : Array Slot), k_228 y1_j228 I J = some o → MI D cy s s.heap H locs q I J A B → lv_has ls 7 [(0, .ref (q 46)), (2, .int r_64)] → W p l e (rmL 76) s m args below meth c H locs 0 0 Q (F0 m 228 ls [.int y1_j228, .ref (q 46)]) := by
                        intro y1_j228 I J H locs ls hs hI hl
                        rw [ek_228] at hs
                        obtain ⟨hb, hs⟩ := ck_e hs
                        refine mp_37 C hI hb dX8_asks_228 (fun H locs hI => ?_)
                        have hs := gv_be hs
                        refine lv_aload_n C.1 C.2.1 dX8_asks_231 rfl (lv_at hl 0 rfl) ?_
                        refine lv_aload_n C.1 C.2.1 dX8_asks_232 rfl (lv_at hl 0 rfl) ?_
                        refine mg_38 C hI dX8_asks_233 ?_
                        obtain ⟨v_249, ev_249, hs⟩ := gv_ex hs
                        have KP_249 : W p l e (rmL 76) s m args below meth c H locs 0 0 Q (F0 m 249 ls [.int v_249, .ref (q 46)]) := by
                          obtain ⟨hb, hs⟩ := ck_e hs
                          refine mp_38 C hI hb dX8_asks_249 (fun H locs hI => ?_)
                          have hs := gv_be hs
                          refine lv_goto (tgt := 43) C.1 C.2.1 dX8_asks_252 (by decide) ?_
                          exact ih _ _ _ _ _ _ _ _ _ hs hI (lv_sub hl [0] rfl) kk0
                        refine lv_if_ne (tgt := 244) C.1 C.2.1 dX8_asks_236 (by decide) (fun cn => ?_) (fun cn => ?_)
                        · have ev_249 := if_f' cn ev_249
                          refine lv_iconst (v := 1) C.1 C.2.1 dX8_asks_244 (by decide) ?_
                          refine lv_goto (tgt := 249) C.1 C.2.1 dX8_asks_245 (by decide) ?_
                          subst ev_249
                          exact KP_249
                        · have ev_249 := if_t' cn ev_249
                          refine lv_iload_n C.1 C.2.1 dX8_asks_239 rfl (lv_at hl 1 rfl) ?_
                          refine lv_iconst (v := 3) C.1 C.2.1 dX8_asks_240 (by decide) ?_
                          refine lv_icmp_ne (tgt := 248) C.1 C.2.1 dX8_asks_241 (by decide) (fun cn => ?_) (fun cn => ?_)
                          · have ev_249 := if_f' cn ev_249
                            refine lv_iconst (v := 0) C.1 C.2.1 dX8_asks_248 (by decide) ?_
                            subst ev_249
                            exact KP_249
                          · have ev_249 := if_t' cn ev_249
                            refine lv_iconst (v := 1) C.1 C.2.1 dX8_asks_244 (by decide) ?_
                            refine lv_goto (tgt := 249) C.1 C.2.1 dX8_asks_245 (by decide) ?_
                            subst ev_249
                            exact KP_249
                      obtain ⟨k_223, ek_223, hs⟩ := gv_ex hs
                      have KJ_223 : ∀ (I : Nat → Int32) (J : Nat → Int64) (H : Heap) (locs : List Loc) (ls : Array Slot), k_223 I J = some o → MI D cy s s.heap H locs q I J A B → lv_has ls 7 [(0, .ref (q 46)), (2, .int r_64)] → W p l e (rmL 76) s m args below meth c H locs 0 0 Q (F0 m 223 ls [.ref (q 46)]) := by
                        intro I J H locs ls hs hI hl
                        rw [ek_223] at hs
                        refine lv_iconst (v := 1) C.1 C.2.1 dX8_asks_223 (by decide) ?_
                        refine lv_goto (tgt := 228) C.1 C.2.1 dX8_asks_224 (by decide) ?_
                        exact KJ_228 _ _ _ _ _ _ hs hI (lv_sub hl [0, 1] rfl)
                      refine lv_if_ne (tgt := 223) C.1 C.2.1 dX8_asks_215 (by decide) (fun cn => ?_) (fun cn => ?_)
                      · have hs := if_f cn hs
                        exact KJ_223 _ _ _ _ _ hs hI (lv_sub hl [0, 1] rfl)
                      · have hs := if_t cn hs
                        refine lv_iload_n C.1 C.2.1 dX8_asks_218 rfl (lv_at hl 1 rfl) ?_
                        refine lv_iconst (v := 2) C.1 C.2.1 dX8_asks_219 (by decide) ?_
                        refine lv_icmp_ne (tgt := 227) C.1 C.2.1 dX8_asks_220 (by decide) (fun cn => ?_) (fun cn => ?_)
                        · have hs := if_f cn hs
                          refine lv_iconst (v := 0) C.1 C.2.1 dX8_asks_227 (by decide) ?_
                          exact KJ_228 _ _ _ _ _ _ hs hI (lv_sub hl [0, 1] rfl)
                        · have hs := if_t cn hs
                          exact KJ_223 _ _ _ _ _ hs hI (lv_sub hl [0, 1] rfl)
                    obtain ⟨k_202, ek_202, hs⟩ := gv_ex hs
                    have KJ_202 : ∀ (I : Nat → Int32) (J : Nat → Int64) (H : Heap) (locs : List Loc) (ls : Array Slot), k_202 I J = some o → MI D cy s s.heap H locs q I J A B → lv_has ls 7 [(0, .ref (q 46)), (2, .int r_64)] → W p l e (rmL 76) s m args below meth c H locs 0 0 Q (F0 m 202 ls [.ref (q 46)]) := by
                      intro I J H locs ls hs hI hl
                      rw [ek_202] at hs
                      refine lv_iconst (v := 1) C.1 C.2.1 dX8_asks_202 (by decide) ?_
                      refine lv_goto (tgt := 207) C.1 C.2.1 dX8_asks_203 (by decide) ?_
                      exact KJ_207 _ _ _ _ _ _ hs hI (lv_sub hl [0, 1] rfl)
                    refine lv_if_ne (tgt := 202) C.1 C.2.1 dX8_asks_194 (by decide) (fun cn => ?_) (fun cn => ?_)
                    · have hs := if_f cn hs
                      exact KJ_202 _ _ _ _ _ hs hI (lv_sub hl [0, 1] rfl)
                    · have hs := if_t cn hs
                      refine lv_iload_n C.1 C.2.1 dX8_asks_197 rfl (lv_at hl 1 rfl) ?_
                      refine lv_iconst (v := 1) C.1 C.2.1 dX8_asks_198 (by decide) ?_
                      refine lv_icmp_ne (tgt := 206) C.1 C.2.1 dX8_asks_199 (by decide) (fun cn => ?_) (fun cn => ?_)
                      · have hs := if_f cn hs
                        refine lv_iconst (v := 0) C.1 C.2.1 dX8_asks_206 (by decide) ?_
                        exact KJ_207 _ _ _ _ _ _ hs hI (lv_sub hl [0, 1] rfl)
                      · have hs := if_t cn hs
                        exact KJ_202 _ _ _ _ _ hs hI (lv_sub hl [0, 1] rfl)
                  refine lv_icmp_ne (tgt := 189) C.1 C.2.1 dX8_asks_181 (by decide) (fun cn => ?_) (fun cn => ?_)
                  · have hs := if_f cn hs
                    exact KJ_189 _ _ _ _ _ hs hI (lv_sub hl [0, 1] rfl)
                  · have hs := if_t cn hs
                    refine lv_aload_n C.1 C.2.1 dX8_asks_184 rfl (lv_at hl 0 rfl) ?_
                    refine lv_lload_n C.1 C.2.1 dX8_asks_185 rfl (lv_at hl 2 rfl) ?_
                    refine mp_35 C hI dX8_asks_186 (fun H locs hI => ?_)
                    have hs := gv_be hs
                    exact KJ_189 _ _ _ _ _ hs hI (lv_sub hl [0, 1] rfl)
                refine lv_icmp_ne (tgt := 179) C.1 C.2.1 dX8_asks_171 (by decide) (fun cn => ?_) (fun cn => ?_)
                · have hs := if_f cn hs
                  exact KJ_179 _ _ _ _ _ hs hI (lv_sub hl [1, 2, 3] rfl)
                · have hs := if_t cn hs
                  refine lv_aload_n C.1 C.2.1 dX8_asks_174 rfl (lv_at hl 1 rfl) ?_
                  refine lv_lload_n C.1 C.2.1 dX8_asks_175 rfl (lv_at hl 3 rfl) ?_
                  refine mp_34 C hI dX8_asks_176 (fun H locs hI => ?_)
                  have hs := gv_be hs
                  exact KJ_179 _ _ _ _ _ hs hI (lv_sub hl [1, 2, 3] rfl)
              · have hs := if_t cn hs
                refine lv_goto (tgt := 43) C.1 C.2.1 dX8_asks_166 (by decide) ?_
                exact ih _ _ _ _ _ _ _ _ _ hs hI (lv_sub hl [1] rfl) kk0
            obtain ⟨k_148, ek_148, hs⟩ := gv_ex hs
            have KJ_148 : ∀ (I : Nat → Int32) (J : Nat → Int64) (H : Heap) (locs : List Loc) (ls : Array Slot), k_148 I J = some o → MI D cy s s.heap H locs q I J A B → lv_has ls 7 [(0, .ref (q 46)), (2, .int r_64), (3, .long y0_j92)] → W p l e (rmL 76) s m args below meth c H locs 0 0 Q (F0 m 148 ls []) := by
              intro I J H locs ls hs hI hl
              rw [ek_148] at hs
              refine lv_iconst (v := 0) C.1 C.2.1 dX8_asks_148 (by decide) ?_
              exact KJ_149 _ _ _ _ _ _ hs hI (lv_sub hl [0, 1, 2] rfl)
            refine lv_if_eq (tgt := 148) C.1 C.2.1 dX8_asks_129 (by decide) (fun cn => ?_) (fun cn => ?_)
            · have hs := if_t cn hs
              exact KJ_148 _ _ _ _ _ hs hI (lv_sub hl [1, 2, 3] rfl)
            · have hs := if_f cn hs
              refine lv_aload_n C.1 C.2.1 dX8_asks_132 rfl (lv_at hl 1 rfl) ?_
              refine mg_31 C hI dX8_asks_133 ?_
              refine lv_if_ne (tgt := 148) C.1 C.2.1 dX8_asks_136 (by decide) (fun cn => ?_) (fun cn => ?_)
              · have hs := if_f cn hs
                exact KJ_148 _ _ _ _ _ hs hI (lv_sub hl [1, 2, 3] rfl)
              · have hs := if_t cn hs
                refine lv_iload C.1 C.2.1 dX8_asks_139 (lv_at hl 4 rfl) ?_
                refine lv_if_ne (tgt := 148) C.1 C.2.1 dX8_asks_141 (by decide) (fun cn => ?_) (fun cn => ?_)
                · have hs := if_f cn hs
                  exact KJ_148 _ _ _ _ _ hs hI (lv_sub hl [1, 2, 3] rfl)
                · have hs := if_t cn hs
                  refine lv_iconst (v := 1) C.1 C.2.1 dX8_asks_144 (by decide) ?_
                  refine lv_goto (tgt := 149) C.1 C.2.1 dX8_asks_145 (by decide) ?_
                  exact KJ_149 _ _ _ _ _ _ hs hI (lv_sub hl [1, 2, 3] rfl)
          obtain ⟨k_120, ek_120, hs⟩ := gv_ex hs
          have KJ_120 : ∀ (I : Nat → Int32) (J : Nat → Int64) (H : Heap) (locs : List Loc) (ls : Array Slot), k_120 I J = some o → MI D cy s s.heap H locs q I J A B → lv_has ls 7 [(0, .ref (q 46)), (2, .int r_64), (3, .long y0_j92), (5, .int x5_97)] → W p l e (rmL 76) s m args below meth c H locs 0 0 Q (F0 m 120 ls []) := by
            intro I J H locs ls hs hI hl
            rw [ek_120] at hs
            refine lv_iconst (v := 1) C.1 C.2.1 dX8_asks_120 (by decide) ?_
            refine lv_goto (tgt := 125) C.1 C.2.1 dX8_asks_121 (by decide) ?_
            exact KJ_125 _ _ _ _ _ _ hs hI (lv_sub hl [0, 1, 2, 3] rfl)
          refine lv_if_eq (tgt := 120) C.1 C.2.1 dX8_asks_109 (by decide) (fun cn => ?_) (fun cn => ?_)
          · have hs := if_t cn hs
            exact KJ_120 _ _ _ _ _ hs hI (lv_sub hl [2, 3, 1, 0] rfl)
          · have hs := if_f cn hs
            refine lv_aload_n C.1 C.2.1 dX8_asks_112 rfl (lv_at hl 2 rfl) ?_
            refine lv_iconst (v := 1) C.1 C.2.1 dX8_asks_113 (by decide) ?_
            obtain ⟨⟨r_114, I⟩, hc, hs⟩ := bd_e hs
            refine M_call C hI (kX8_testOf l D cy q 10 _ _ _ _ _ _ _ hc) ml_X8_281 im_X8_testOf se_X8_testOf ini_X8 co_X8_testOf hyX8_testOf rfl ⟨by decide, by decide⟩ hl.1 rfl (Nat.le_of_ble_eq_true rfl) dX8_asks_114 (fun H locs hI => ?_)
            refine lv_if_eq (tgt := 124) C.1 C.2.1 dX8_asks_117 (by decide) (fun cn => ?_) (fun cn => ?_)
            · have hs := if_t cn hs
              refine lv_iconst (v := 0) C.1 C.2.1 dX8_asks_124 (by decide) ?_
              exact KJ_125 _ _ _ _ _ _ hs hI (lv_sub hl [2, 3, 1, 0] rfl)
            · have hs := if_f cn hs
              exact KJ_120 _ _ _ _ _ hs hI (lv_sub hl [2, 3, 1, 0] rfl)
        refine lv_icmp_ne (tgt := 87) C.1 C.2.1 dX8_asks_80 (by decide) (fun cn => ?_) (fun cn => ?_)
        · have hs := if_f cn hs
          refine lv_aload_n C.1 C.2.1 dX8_asks_87 rfl (lv_at hl 1 rfl) ?_
          refine lv_iconst (v := 1) C.1 C.2.1 dX8_asks_88 (by decide) ?_
          obtain ⟨⟨r_89, I⟩, hc, hs⟩ := bd_e hs
          refine M_call C hI (kX8_sumOf l D cy q 10 _ _ _ _ _ _ _ hc) ml_X8_268 im_X8_sumOf se_X8_sumOf ini_X8 co_X8_sumOf hyX8_sumOf rfl ⟨by decide, by decide⟩ hl.1 rfl (Nat.le_of_ble_eq_true rfl) dX8_asks_89 (fun H locs hI => ?_)
          exact KJ_92 _ _ _ _ _ _ hs hI (lv_sub hl [1, 0] rfl)
        · have hs := if_t cn hs
          refine lv_lconst (v := 0) C.1 C.2.1 dX8_asks_83 (by decide) ?_
          refine lv_goto (tgt := 92) C.1 C.2.1 dX8_asks_84 (by decide) ?_
          exact KJ_92 _ _ _ _ _ _ hs hI (lv_sub hl [1, 0] rfl)
  obtain ⟨⟨I_L, J_L⟩, hL, hs⟩ := bd_e hs
  refine KL_43 FU _ _ _ _ _ _ _ _ _ hL hI (lv_sub hl [0] rfl) (fun z0 z1 H locs ls eo hI hl => ?_)
  obtain ⟨rfl, rfl⟩ := pr2 eo
  obtain ⟨rfl, rfl⟩ := so2 hs
  exact M_vret C hI dX8_asks_255

def lX8_needOf_6 : Nat → Int32 → Int32 → Int32 → Int64 → Int32 → (Nat → Int32) → (Nat → Int64) → (Nat → Nat → Int32) → (Nat → Nat → Int64) → Option (Int64 × (Nat → Int32) × (Nat → Int64) × (Nat → Nat → Int32) × (Nat → Nat → Int64))
  | 0, _, _, _, _, _, _, _, _, _ => none
  | n + 1, x1, x2, x3, x4, x6, I, J, A, B =>
    if (A 1 (ix (1633 : Int32))) ≤ x6 then
    (some (x4, I, J, A, B))
    else
    (sX8_asksJoint x2 x3 x6 I J A B).bind fun (J, A, B) =>
    (sX8_asks x1 I J A B).bind fun (I, J) =>
    (sX8_windOf x6 (0 : Int32) I J A B).bind fun r_36 =>
    gv (fun (I : Nat → Int32) (J : Nat → Int64) (A : Nat → Nat → Int32) (B : Nat → Nat → Int64) =>
    if (I 36) = 0 then
    (gv (x6 + 1) fun x6_74 =>
    lX8_needOf_6 n x1 x2 x3 x4 x6_74 I J A B)
    else
    if (lg_cmp (J 34) x4) ≤ 0 then
    (gv (x6 + 1) fun x6_74 =>
    lX8_needOf_6 n x1 x2 x3 x4 x6_74 I J A B)
    else
    gv (J 34) fun x4_72 =>
    gv (x6 + 1) fun x6_74 =>
    lX8_needOf_6 n x1 x2 x3 x4_72 x6_74 I J A B) fun k_51 =>
    if (r_36 - r_36 / (2 : Int32) * (2 : Int32)) = 0 then
    (k_51 I J A B)
    else
    if (I 38) = 0 then
    (gv (x6 + 1) fun x6_74 =>
    lX8_needOf_6 n x1 x2 x3 x4 x6_74 I J A B)
    else
    k_51 I J A B
def sX8_needOf (x1 : Int32) (x2 : Int32) (x3 : Int32) (I : Nat → Int32) (J : Nat → Int64) (A : Nat → Nat → Int32) (B : Nat → Nat → Int64) : Option ((Int64) × (Nat → Int32) × (Nat → Int64) × (Nat → Nat → Int32) × (Nat → Nat → Int64)) :=
(lX8_needOf_6 FU x1 x2 x3 (0 : Int64) (0 : Int32) I J A B).bind fun (x4_6, I, J, A, B) =>
some (x4_6, I, J, A, B)
set_option maxRecDepth 100000 in
set_option maxHeartbeats 8000000 in
theorem kX8_needOf (l : Launch) (D : va_G) (cy : Nat → ClassId) (q : Nat → Nat) (x1 : Int32) (x2 : Int32) (x3 : Int32) (I : Nat → Int32) (J : Nat → Int64) (A : Nat → Nat → Int32) (B : Nat → Nat → Int64) (r : Int64) (I2 : Nat → Int32) (J2 : Nat → Int64) (A2 : Nat → Nat → Int32) (B2 : Nat → Nat → Int64) (hs : sX8_needOf x1 x2 x3 I J A B = some (r, I2, J2, A2, B2)) : McI l yX8_needOf cX8_needOf 7 (some .long) 77 [.ref (q 46), .int x1, .int x2, .int x3] D cy q I J A B (some (.long r)) I2 J2 A2 B2 := by
  refine M_start rfl rfl (Nat.le_of_ble_eq_true rfl) ?_
  intro p e s m args below meth c H locs C hI ls hl
  have hl : lv_has ls 7 [(0, .ref (q 46)), (1, .int x1), (2, .int x2), (3, .int x3)] := hl
  rw [sX8_needOf] at hs
  refine lv_lconst (v := 0) C.1 C.2.1 dX8_needOf_0 (by decide) ?_
  refine lv_lstore (lv' := [(4, .long (0 : Int64)), (0, .ref (q 46)), (1, .int x1), (2, .int x2), (3, .int x3)]) C.1 C.2.1 dX8_needOf_1 hl (by decide) rfl (fun ls hl => ?_)
  refine lv_iconst (v := 0) C.1 C.2.1 dX8_needOf_3 (by decide) ?_
  refine lv_istore (lv' := [(6, .int (0 : Int32)), (4, .long (0 : Int64)), (0, .ref (q 46)), (1, .int x1), (2, .int x2), (3, .int x3)]) C.1 C.2.1 dX8_needOf_4 hl (by decide) rfl (fun ls hl => ?_)
  have KL_6 : ∀ (n : Nat) (x1 : Int32) (x2 : Int32) (x3 : Int32) (x4 : Int64) (x6 : Int32) (I : Nat → Int32) (J : Nat → Int64) (A : Nat → Nat → Int32) (B : Nat → Nat → Int64) (o : Int64 × (Nat → Int32) × (Nat → Int64) × (Nat → Nat → Int32) × (Nat → Nat → Int64)) (Q : State → Prop) (H : Heap) (locs : List Loc) (ls : Array Slot), lX8_needOf_6 n x1 x2 x3 x4 x6 I J A B = some o → MI D cy s s.heap H locs q I J A B → lv_has ls 7 [(0, .ref (q 46)), (1, .int x1), (2, .int x2), (3, .int x3), (4, .long x4), (6, .int x6)] → (∀ (o4_0 : Int64) (I_0 : Nat → Int32) (J_0 : Nat → Int64) (A_0 : Nat → Nat → Int32) (B_0 : Nat → Nat → Int64) (H : Heap) (locs : List Loc) (ls : Array Slot), o = (o4_0, I_0, J_0, A_0, B_0) → MI D cy s s.heap H locs q I_0 J_0 A_0 B_0 → lv_has ls 7 [(4, .long o4_0)] → W p l e (rmL 77) s m args below meth c H locs 0 0 Q (F0 m 80 ls [])) → W p l e (rmL 77) s m args below meth c H locs 0 0 Q (F0 m 6 ls []) := by
    intro n; induction n with
    | zero => intro x1 x2 x3 x4 x6 I J A B o Q H locs ls hs; rw [lX8_needOf_6] at hs; cases hs
    | succ n ih =>
      intro x1 x2 x3 x4 x6 I J A B o Q H locs ls hs hI hl kk0
      rw [lX8_needOf_6] at hs
      refine lv_iload C.1 C.2.1 dX8_needOf_6 (lv_at hl 5 rfl) ?_
      refine lv_aload_n C.1 C.2.1 dX8_needOf_8 rfl (lv_at hl 0 rfl) ?_
      refine mg_1 C hI dX8_needOf_9 ?_
      refine lv_sipush (v := 1633) C.1 C.2.1 dX8_needOf_12 (by decide) ?_
      refine ma_1 C hI (by decide) dX8_needOf_15 ?_
      refine lv_icmp_ge (tgt := 80) C.1 C.2.1 dX8_needOf_16 (by decide) (fun cn => ?_) (fun cn => ?_)
      · have hs := if_t cn hs
        have eo := (Option.some.inj hs).symm
        exact kk0 _ _ _ _ _ _ _ _ eo hI (lv_sub hl [4] rfl)
      · have hs := if_f cn hs
        refine lv_aload_n C.1 C.2.1 dX8_needOf_19 rfl (lv_at hl 0 rfl) ?_
        refine lv_iload_n C.1 C.2.1 dX8_needOf_20 rfl (lv_at hl 2 rfl) ?_
        refine lv_iload_n C.1 C.2.1 dX8_needOf_21 rfl (lv_at hl 3 rfl) ?_
        refine lv_iload C.1 C.2.1 dX8_needOf_22 (lv_at hl 5 rfl) ?_
        obtain ⟨⟨J, A, B⟩, hc, hs⟩ := bd_e hs
        refine M_call C hI (kX8_asksJoint l D cy q _ _ _ _ _ _ _ _ _ _ hc) ml_X8_299 im_X8_asksJoint se_X8_asksJoint ini_X8 co_X8_asksJoint hyX8_asksJoint rfl ⟨by decide, by decide⟩ hl.1 rfl (Nat.le_of_ble_eq_true rfl) dX8_needOf_24 (fun H locs hI => ?_)
        refine lv_aload_n C.1 C.2.1 dX8_needOf_27 rfl (lv_at hl 0 rfl) ?_
        refine lv_iload_n C.1 C.2.1 dX8_needOf_28 rfl (lv_at hl 1 rfl) ?_
        obtain ⟨⟨I, J⟩, hc, hs⟩ := bd_e hs
        refine M_call C hI (kX8_asks l D cy q _ _ _ _ _ _ _ hc) ml_X8_303 im_X8_asks se_X8_asks ini_X8 co_X8_asks hyX8_asks rfl ⟨by decide, by decide⟩ hl.1 rfl (Nat.le_of_ble_eq_true rfl) dX8_needOf_29 (fun H locs hI => ?_)
        refine lv_aload_n C.1 C.2.1 dX8_needOf_32 rfl (lv_at hl 0 rfl) ?_
        refine lv_iload C.1 C.2.1 dX8_needOf_33 (lv_at hl 5 rfl) ?_
        refine lv_iconst (v := 0) C.1 C.2.1 dX8_needOf_35 (by decide) ?_
        obtain ⟨r_36, hc, hs⟩ := bd_e hs
        refine M_call C hI (kX8_windOf l D cy q _ _ _ _ _ _ _ hc) ml_X8_109 im_X8_windOf se_X8_windOf ini_X8 co_X8_windOf hyX8_windOf rfl ⟨by decide, by decide⟩ hl.1 rfl (Nat.le_of_ble_eq_true rfl) dX8_needOf_36 (fun H locs hI => ?_)
        refine lv_iconst (v := 2) C.1 C.2.1 dX8_needOf_39 (by decide) ?_
        refine lv_irem C.1 C.2.1 dX8_needOf_40 (by decide) ?_
        obtain ⟨k_51, ek_51, hs⟩ := gv_ex hs
        have KJ_51 : ∀ (I : Nat → Int32) (J : Nat → Int64) (A : Nat → Nat → Int32) (B : Nat → Nat → Int64) (H : Heap) (locs : List Loc) (ls : Array Slot), k_51 I J A B = some o → MI D cy s s.heap H locs q I J A B → lv_has ls 7 [(0, .ref (q 46)), (1, .int x1), (2, .int x2), (3, .int x3), (4, .long x4), (6, .int x6)] → W p l e (rmL 77) s m args below meth c H locs 0 0 Q (F0 m 51 ls []) := by
          intro I J A B H locs ls hs hI hl
          rw [ek_51] at hs
          refine lv_aload_n C.1 C.2.1 dX8_needOf_51 rfl (lv_at hl 0 rfl) ?_
          refine mg_36 C hI dX8_needOf_52 ?_
          refine lv_if_eq (tgt := 74) C.1 C.2.1 dX8_needOf_55 (by decide) (fun cn => ?_) (fun cn => ?_)
          · have hs := if_t cn hs
            obtain ⟨x6_74, ex6_74⟩ : ∃ y : Int32, y = (x6 + 1) := ⟨_, rfl⟩
            have hs := gv_at ex6_74 hs
            refine lv_iinc (v := x6_74) (lv' := [(6, .int x6_74), (0, .ref (q 46)), (1, .int x1), (2, .int x2), (3, .int x3), (4, .long x4)]) C.1 C.2.1 dX8_needOf_74 hl (k := 5) rfl (by rw [ex6_74]; rfl) (by decide) rfl (fun ls hl => ?_)
            refine lv_goto (tgt := 6) C.1 C.2.1 dX8_needOf_77 (by decide) ?_
            exact ih _ _ _ _ _ _ _ _ _ _ _ _ _ _ hs hI (lv_sub hl [1, 2, 3, 4, 5, 0] rfl) kk0
          · have hs := if_f cn hs
            refine lv_aload_n C.1 C.2.1 dX8_needOf_58 rfl (lv_at hl 0 rfl) ?_
            refine mg_34 C hI dX8_needOf_59 ?_
            refine lv_lload C.1 C.2.1 dX8_needOf_62 (lv_at hl 4 rfl) ?_
            refine W.lcmp C.1 C.2.1 dX8_needOf_64 ?_
            refine lv_if_le (tgt := 74) C.1 C.2.1 dX8_needOf_65 (by decide) (fun cn => ?_) (fun cn => ?_)
            · have hs := if_t cn hs
              obtain ⟨x6_74, ex6_74⟩ : ∃ y : Int32, y = (x6 + 1) := ⟨_, rfl⟩
              have hs := gv_at ex6_74 hs
              refine lv_iinc (v := x6_74) (lv' := [(6, .int x6_74), (0, .ref (q 46)), (1, .int x1), (2, .int x2), (3, .int x3), (4, .long x4)]) C.1 C.2.1 dX8_needOf_74 hl (k := 5) rfl (by rw [ex6_74]; rfl) (by decide) rfl (fun ls hl => ?_)
              refine lv_goto (tgt := 6) C.1 C.2.1 dX8_needOf_77 (by decide) ?_
              exact ih _ _ _ _ _ _ _ _ _ _ _ _ _ _ hs hI (lv_sub hl [1, 2, 3, 4, 5, 0] rfl) kk0
            · have hs := if_f cn hs
              refine lv_aload_n C.1 C.2.1 dX8_needOf_68 rfl (lv_at hl 0 rfl) ?_
              refine mg_34 C hI dX8_needOf_69 ?_
              refine lv_topl (fun x4_72 ex4_72 => ?_)
              have hs := gv_at ex4_72 hs
              refine lv_lstore (lv' := [(4, .long x4_72), (0, .ref (q 46)), (1, .int x1), (2, .int x2), (3, .int x3), (6, .int x6)]) C.1 C.2.1 dX8_needOf_72 hl (by decide) rfl (fun ls hl => ?_)
              obtain ⟨x6_74, ex6_74⟩ : ∃ y : Int32, y = (x6 + 1) := ⟨_, rfl⟩
              have hs := gv_at ex6_74 hs
              refine lv_iinc (v := x6_74) (lv' := [(6, .int x6_74), (4, .long x4_72), (0, .ref (q 46)), (1, .int x1), (2, .int x2), (3, .int x3)]) C.1 C.2.1 dX8_needOf_74 hl (k := 5) rfl (by rw [ex6_74]; rfl) (by decide) rfl (fun ls hl => ?_)
              refine lv_goto (tgt := 6) C.1 C.2.1 dX8_needOf_77 (by decide) ?_
              exact ih _ _ _ _ _ _ _ _ _ _ _ _ _ _ hs hI (lv_sub hl [2, 3, 4, 5, 1, 0] rfl) kk0
        refine lv_if_eq (tgt := 51) C.1 C.2.1 dX8_needOf_41 (by decide) (fun cn => ?_) (fun cn => ?_)
        · have hs := if_t cn hs
          exact KJ_51 _ _ _ _ _ _ _ hs hI (lv_sub hl [0, 1, 2, 3, 4, 5] rfl)
        · have hs := if_f cn hs
          refine lv_aload_n C.1 C.2.1 dX8_needOf_44 rfl (lv_at hl 0 rfl) ?_
          refine mg_38 C hI dX8_needOf_45 ?_
          refine lv_if_eq (tgt := 74) C.1 C.2.1 dX8_needOf_48 (by decide) (fun cn => ?_) (fun cn => ?_)
          · have hs := if_t cn hs
            obtain ⟨x6_74, ex6_74⟩ : ∃ y : Int32, y = (x6 + 1) := ⟨_, rfl⟩
            have hs := gv_at ex6_74 hs
            refine lv_iinc (v := x6_74) (lv' := [(6, .int x6_74), (0, .ref (q 46)), (1, .int x1), (2, .int x2), (3, .int x3), (4, .long x4)]) C.1 C.2.1 dX8_needOf_74 hl (k := 5) rfl (by rw [ex6_74]; rfl) (by decide) rfl (fun ls hl => ?_)
            refine lv_goto (tgt := 6) C.1 C.2.1 dX8_needOf_77 (by decide) ?_
            exact ih _ _ _ _ _ _ _ _ _ _ _ _ _ _ hs hI (lv_sub hl [1, 2, 3, 4, 5, 0] rfl) kk0
          · have hs := if_f cn hs
            exact KJ_51 _ _ _ _ _ _ _ hs hI (lv_sub hl [0, 1, 2, 3, 4, 5] rfl)
  obtain ⟨⟨x4_6, I_L, J_L, A_L, B_L⟩, hL, hs⟩ := bd_e hs
  refine KL_6 FU _ _ _ _ _ _ _ _ _ _ _ _ _ _ hL hI (lv_sub hl [2, 3, 4, 5, 1, 0] rfl) (fun z0 z1 z2 z3 z4 H locs ls eo hI hl => ?_)
  obtain ⟨rfl, rfl, rfl, rfl, rfl⟩ := pr5 eo
  refine lv_lload C.1 C.2.1 dX8_needOf_80 (lv_at hl 0 rfl) ?_
  obtain ⟨rfl, rfl, rfl, rfl, rfl⟩ := so5 hs
  exact M_lret C hI dX8_needOf_82

def sX8_need (x1 : Int32) (x2 : Int32) (x3 : Int32) (I : Nat → Int32) (J : Nat → Int64) (A : Nat → Nat → Int32) (B : Nat → Nat → Int64) : Option ((Int32) × (Nat → Int32) × (Nat → Int64) × (Nat → Nat → Int32) × (Nat → Nat → Int64)) :=
(sX8_isText x1 I J A B).bind fun r_2 =>
if r_2 = 0 then
(some ((-1 : Int32), I, J, A, B))
else
(sX8_isJoint x2).bind fun r_9 =>
if r_9 = 0 then
(some ((-1 : Int32), I, J, A, B))
else
(sX8_isDay x3).bind fun r_16 =>
if r_16 = 0 then
(some ((-1 : Int32), I, J, A, B))
else
(sX8_needOf x1 x2 x3 I J A B).bind fun (r_26, I, J, A, B) =>
some ((r_26.toInt32), I, J, A, B)
set_option maxRecDepth 100000 in
set_option maxHeartbeats 8000000 in
theorem kX8_need (l : Launch) (D : va_G) (cy : Nat → ClassId) (q : Nat → Nat) (x1 : Int32) (x2 : Int32) (x3 : Int32) (I : Nat → Int32) (J : Nat → Int64) (A : Nat → Nat → Int32) (B : Nat → Nat → Int64) (r : Int32) (I2 : Nat → Int32) (J2 : Nat → Int64) (A2 : Nat → Nat → Int32) (B2 : Nat → Nat → Int64) (hs : sX8_need x1 x2 x3 I J A B = some (r, I2, J2, A2, B2)) : McI l yX8_need cX8_need 4 (some .int) 78 [.ref (q 46), .int x1, .int x2, .int x3] D cy q I J A B (some (.int r)) I2 J2 A2 B2 := by
  refine M_start rfl rfl (Nat.le_of_ble_eq_true rfl) ?_
  intro p e s m args below meth c H locs C hI ls hl
  have hl : lv_has ls 4 [(0, .ref (q 46)), (1, .int x1), (2, .int x2), (3, .int x3)] := hl
  rw [sX8_need] at hs
  refine lv_aload_n C.1 C.2.1 dX8_need_0 rfl (lv_at hl 0 rfl) ?_
  refine lv_iload_n C.1 C.2.1 dX8_need_1 rfl (lv_at hl 1 rfl) ?_
  obtain ⟨r_2, hc, hs⟩ := bd_e hs
  refine M_call C hI (kX8_isText l D cy q _ _ _ _ _ _ hc) ml_X8_306 im_X8_isText se_X8_isText ini_X8 co_X8_isText hyX8_isText rfl ⟨by decide, by decide⟩ hl.1 rfl (Nat.le_of_ble_eq_true rfl) dX8_need_2 (fun H locs hI => ?_)
  refine lv_if_eq (tgt := 33) C.1 C.2.1 dX8_need_5 (by decide) (fun cn => ?_) (fun cn => ?_)
  · have hs := if_t cn hs
    refine lv_iconst (v := -1) C.1 C.2.1 dX8_need_33 (by decide) ?_
    obtain ⟨rfl, rfl, rfl, rfl, rfl⟩ := so5 hs
    exact M_iret C hI dX8_need_34
  · have hs := if_f cn hs
    refine lv_iload_n C.1 C.2.1 dX8_need_8 rfl (lv_at hl 2 rfl) ?_
    obtain ⟨r_9, hc, hs⟩ := bd_e hs
    refine S_call (h := 78) C (kX8_isJoint l _ _ hc) ml_X8_94 st_X8_isJoint ini_X8 co_X8_isJoint hyX8_isJoint rfl ⟨by decide, by decide⟩ hl.1 rfl (Nat.le_of_ble_eq_true rfl) dX8_need_9 ⟨Nat.le_refl 0, Nat.le_refl 0, Nat.le_refl _, Nat.le_refl _⟩ ?_
    refine lv_if_eq (tgt := 33) C.1 C.2.1 dX8_need_12 (by decide) (fun cn => ?_) (fun cn => ?_)
    · have hs := if_t cn hs
      refine lv_iconst (v := -1) C.1 C.2.1 dX8_need_33 (by decide) ?_
      obtain ⟨rfl, rfl, rfl, rfl, rfl⟩ := so5 hs
      exact M_iret C hI dX8_need_34
    · have hs := if_f cn hs
      refine lv_iload_n C.1 C.2.1 dX8_need_15 rfl (lv_at hl 3 rfl) ?_
      obtain ⟨r_16, hc, hs⟩ := bd_e hs
      refine S_call (h := 78) C (kX8_isDay l _ _ hc) ml_X8_309 st_X8_isDay ini_X8 co_X8_isDay hyX8_isDay rfl ⟨by decide, by decide⟩ hl.1 rfl (Nat.le_of_ble_eq_true rfl) dX8_need_16 ⟨Nat.le_refl 0, Nat.le_refl 0, Nat.le_refl _, Nat.le_refl _⟩ ?_
      refine lv_if_eq (tgt := 33) C.1 C.2.1 dX8_need_19 (by decide) (fun cn => ?_) (fun cn => ?_)
      · have hs := if_t cn hs
        refine lv_iconst (v := -1) C.1 C.2.1 dX8_need_33 (by decide) ?_
        obtain ⟨rfl, rfl, rfl, rfl, rfl⟩ := so5 hs
        exact M_iret C hI dX8_need_34
      · have hs := if_f cn hs
        refine lv_aload_n C.1 C.2.1 dX8_need_22 rfl (lv_at hl 0 rfl) ?_
        refine lv_iload_n C.1 C.2.1 dX8_need_23 rfl (lv_at hl 1 rfl) ?_
        refine lv_iload_n C.1 C.2.1 dX8_need_24 rfl (lv_at hl 2 rfl) ?_
        refine lv_iload_n C.1 C.2.1 dX8_need_25 rfl (lv_at hl 3 rfl) ?_
        obtain ⟨⟨r_26, I, J, A, B⟩, hc, hs⟩ := bd_e hs
        refine M_call C hI (kX8_needOf l D cy q _ _ _ _ _ _ _ _ _ _ _ _ hc) ml_X8_312 im_X8_needOf se_X8_needOf ini_X8 co_X8_needOf hyX8_needOf rfl ⟨by decide, by decide⟩ hl.1 rfl (Nat.le_of_ble_eq_true rfl) dX8_need_26 (fun H locs hI => ?_)
        refine lv_l2i C.1 C.2.1 dX8_need_29 rfl ?_
        refine lv_goto (tgt := 34) C.1 C.2.1 dX8_need_30 (by decide) ?_
        obtain ⟨rfl, rfl, rfl, rfl, rfl⟩ := so5 hs
        exact M_iret C hI dX8_need_34

def sX8_step (x1 : Int32) (x2 : Int32) (x3 : Int32) (x4 : Int32) (x5 : Int32) (I : Nat → Int32) (J : Nat → Int64) (A : Nat → Nat → Int32) (B : Nat → Nat → Int64) : Option ((Int32) × (Nat → Int32) × (Nat → Int64) × (Nat → Nat → Int32) × (Nat → Nat → Int64)) :=
(sX8_isDay x1).bind fun r_1 =>
if r_1 = 0 then
((sX8_refuses (-1 : Int32) I J A B).bind fun (r_36, I) =>
some (r_36, I, J, A, B))
else
(sX8_isJoint x2).bind fun r_8 =>
if r_8 = 0 then
((sX8_refuses (-1 : Int32) I J A B).bind fun (r_36, I) =>
some (r_36, I, J, A, B))
else
(sX8_in x3 (0 : Int32) (1 : Int32)).bind fun r_17 =>
if r_17 = 0 then
((sX8_refuses (-1 : Int32) I J A B).bind fun (r_36, I) =>
some (r_36, I, J, A, B))
else
(sX8_in x4 (0 : Int32) (7 : Int32)).bind fun r_28 =>
if r_28 = 0 then
((sX8_refuses (-1 : Int32) I J A B).bind fun (r_36, I) =>
some (r_36, I, J, A, B))
else
(sX8_isText x5 I J A B).bind fun r_43 =>
if r_43 = 0 then
((sX8_refuses (-2 : Int32) I J A B).bind fun (r_52, I) =>
some (r_52, I, J, A, B))
else
gv (A 1 (ix (1635 : Int32))) fun x6_64 =>
gv (fun (I : Nat → Int32) (J : Nat → Int64) (A : Nat → Nat → Int32) (B : Nat → Nat → Int64) =>
if x6_64 = (60 : Int32) then
((sX8_refuses (-5 : Int32) I J A B).bind fun (r_101, I) =>
some (r_101, I, J, A, B))
else
(sX8_becomes x2 x3 I J A B).bind fun A =>
(sX8_holdsOf x2 I J A B).bind fun r_113 =>
(sX8_needOf x5 x2 x1 I J A B).bind fun (r_122, I, J, A, B) =>
gv (if (lg_cmp (r_113.toInt64) r_122) < 0 then (0 : Int32) else (1 : Int32)) fun v_134 =>
gv ((213 : Int32) + ((6 : Int32) * x6_64)) fun x8_145 =>
ck (inB x8_145 8047) <|
gv (va_up A 1 (upd (A 1) (ix x8_145) x1)) fun A =>
ck (inB (x8_145 + (1 : Int32)) 8047) <|
gv (va_up A 1 (upd (A 1) (ix (x8_145 + (1 : Int32))) x2)) fun A =>
ck (inB (x8_145 + (2 : Int32)) 8047) <|
gv (va_up A 1 (upd (A 1) (ix (x8_145 + (2 : Int32))) x3)) fun A =>
ck (inB (x8_145 + (3 : Int32)) 8047) <|
gv (va_up A 1 (upd (A 1) (ix (x8_145 + (3 : Int32))) x4)) fun A =>
ck (inB (x8_145 + (4 : Int32)) 8047) <|
gv (va_up A 1 (upd (A 1) (ix (x8_145 + (4 : Int32))) x5)) fun A =>
ck (inB (x8_145 + (5 : Int32)) 8047) <|
gv (va_up A 1 (upd (A 1) (ix (x8_145 + (5 : Int32))) v_134)) fun A =>
gv (va_up A 1 (upd (A 1) (ix (1635 : Int32)) ((A 1 (ix (1635 : Int32))) + (1 : Int32)))) fun A =>
(sX8_good v_134 I J A B).bind fun (r_223, I) =>
some (r_223, I, J, A, B)) fun k_91 =>
if x6_64 ≤ 0 then
(k_91 I J A B)
else
(sX8_stepOf (x6_64 - (1 : Int32)) (0 : Int32) I J A B).bind fun r_78 =>
if r_78 ≤ x1 then
(k_91 I J A B)
else
(sX8_refuses (-3 : Int32) I J A B).bind fun (r_87, I) =>
some (r_87, I, J, A, B)
set_option maxRecDepth 100000 in
set_option maxHeartbeats 8000000 in
theorem kX8_step (l : Launch) (D : va_G) (cy : Nat → ClassId) (q : Nat → Nat) (x1 : Int32) (x2 : Int32) (x3 : Int32) (x4 : Int32) (x5 : Int32) (I : Nat → Int32) (J : Nat → Int64) (A : Nat → Nat → Int32) (B : Nat → Nat → Int64) (r : Int32) (I2 : Nat → Int32) (J2 : Nat → Int64) (A2 : Nat → Nat → Int32) (B2 : Nat → Nat → Int64) (hs : sX8_step x1 x2 x3 x4 x5 I J A B = some (r, I2, J2, A2, B2)) : McI l yX8_step cX8_step 9 (some .int) 78 [.ref (q 46), .int x1, .int x2, .int x3, .int x4, .int x5] D cy q I J A B (some (.int r)) I2 J2 A2 B2 := by
  refine M_start rfl rfl (Nat.le_of_ble_eq_true rfl) ?_
  intro p e s m args below meth c H locs C hI ls hl
  have hl : lv_has ls 9 [(0, .ref (q 46)), (1, .int x1), (2, .int x2), (3, .int x3), (4, .int x4), (5, .int x5)] := hl
  rw [sX8_step] at hs
  refine lv_iload_n C.1 C.2.1 dX8_step_0 rfl (lv_at hl 1 rfl) ?_
  obtain ⟨r_1, hc, hs⟩ := bd_e hs
  refine S_call (h := 78) C (kX8_isDay l _ _ hc) ml_X8_309 st_X8_isDay ini_X8 co_X8_isDay hyX8_isDay rfl ⟨by decide, by decide⟩ hl.1 rfl (Nat.le_of_ble_eq_true rfl) dX8_step_1 ⟨Nat.le_refl 0, Nat.le_refl 0, Nat.le_refl _, Nat.le_refl _⟩ ?_
  refine lv_if_eq (tgt := 34) C.1 C.2.1 dX8_step_4 (by decide) (fun cn => ?_) (fun cn => ?_)
  · have hs := if_t cn hs
    refine lv_aload_n C.1 C.2.1 dX8_step_34 rfl (lv_at hl 0 rfl) ?_
    refine lv_iconst (v := -1) C.1 C.2.1 dX8_step_35 (by decide) ?_
    obtain ⟨⟨r_36, I⟩, hc, hs⟩ := bd_e hs
    refine M_call C hI (kX8_refuses l D cy q _ _ _ _ _ _ _ hc) ml_X8_87 im_X8_refuses se_X8_refuses ini_X8 co_X8_refuses hyX8_refuses rfl ⟨by decide, by decide⟩ hl.1 rfl (Nat.le_of_ble_eq_true rfl) dX8_step_36 (fun H locs hI => ?_)
    obtain ⟨rfl, rfl, rfl, rfl, rfl⟩ := so5 hs
    exact M_iret C hI dX8_step_39
  · have hs := if_f cn hs
    refine lv_iload_n C.1 C.2.1 dX8_step_7 rfl (lv_at hl 2 rfl) ?_
    obtain ⟨r_8, hc, hs⟩ := bd_e hs
    refine S_call (h := 78) C (kX8_isJoint l _ _ hc) ml_X8_94 st_X8_isJoint ini_X8 co_X8_isJoint hyX8_isJoint rfl ⟨by decide, by decide⟩ hl.1 rfl (Nat.le_of_ble_eq_true rfl) dX8_step_8 ⟨Nat.le_refl 0, Nat.le_refl 0, Nat.le_refl _, Nat.le_refl _⟩ ?_
    refine lv_if_eq (tgt := 34) C.1 C.2.1 dX8_step_11 (by decide) (fun cn => ?_) (fun cn => ?_)
    · have hs := if_t cn hs
      refine lv_aload_n C.1 C.2.1 dX8_step_34 rfl (lv_at hl 0 rfl) ?_
      refine lv_iconst (v := -1) C.1 C.2.1 dX8_step_35 (by decide) ?_
      obtain ⟨⟨r_36, I⟩, hc, hs⟩ := bd_e hs
      refine M_call C hI (kX8_refuses l D cy q _ _ _ _ _ _ _ hc) ml_X8_87 im_X8_refuses se_X8_refuses ini_X8 co_X8_refuses hyX8_refuses rfl ⟨by decide, by decide⟩ hl.1 rfl (Nat.le_of_ble_eq_true rfl) dX8_step_36 (fun H locs hI => ?_)
      obtain ⟨rfl, rfl, rfl, rfl, rfl⟩ := so5 hs
      exact M_iret C hI dX8_step_39
    · have hs := if_f cn hs
      refine lv_iload_n C.1 C.2.1 dX8_step_14 rfl (lv_at hl 3 rfl) ?_
      refine lv_iconst (v := 0) C.1 C.2.1 dX8_step_15 (by decide) ?_
      refine lv_iconst (v := 1) C.1 C.2.1 dX8_step_16 (by decide) ?_
      obtain ⟨r_17, hc, hs⟩ := bd_e hs
      refine S_call (h := 78) C (kX8_in l _ _ _ _ hc) ml_X8_83 st_X8_in ini_X8 co_X8_in hyX8_in rfl ⟨by decide, by decide⟩ hl.1 rfl (Nat.le_of_ble_eq_true rfl) dX8_step_17 ⟨Nat.le_refl 0, Nat.le_refl 0, Nat.le_refl _, Nat.le_refl _⟩ ?_
      refine lv_if_eq (tgt := 34) C.1 C.2.1 dX8_step_20 (by decide) (fun cn => ?_) (fun cn => ?_)
      · have hs := if_t cn hs
        refine lv_aload_n C.1 C.2.1 dX8_step_34 rfl (lv_at hl 0 rfl) ?_
        refine lv_iconst (v := -1) C.1 C.2.1 dX8_step_35 (by decide) ?_
        obtain ⟨⟨r_36, I⟩, hc, hs⟩ := bd_e hs
        refine M_call C hI (kX8_refuses l D cy q _ _ _ _ _ _ _ hc) ml_X8_87 im_X8_refuses se_X8_refuses ini_X8 co_X8_refuses hyX8_refuses rfl ⟨by decide, by decide⟩ hl.1 rfl (Nat.le_of_ble_eq_true rfl) dX8_step_36 (fun H locs hI => ?_)
        obtain ⟨rfl, rfl, rfl, rfl, rfl⟩ := so5 hs
        exact M_iret C hI dX8_step_39
      · have hs := if_f cn hs
        refine lv_iload C.1 C.2.1 dX8_step_23 (lv_at hl 4 rfl) ?_
        refine lv_iconst (v := 0) C.1 C.2.1 dX8_step_25 (by decide) ?_
        refine lv_bipush (v := 7) C.1 C.2.1 dX8_step_26 (by decide) ?_
        obtain ⟨r_28, hc, hs⟩ := bd_e hs
        refine S_call (h := 78) C (kX8_in l _ _ _ _ hc) ml_X8_83 st_X8_in ini_X8 co_X8_in hyX8_in rfl ⟨by decide, by decide⟩ hl.1 rfl (Nat.le_of_ble_eq_true rfl) dX8_step_28 ⟨Nat.le_refl 0, Nat.le_refl 0, Nat.le_refl _, Nat.le_refl _⟩ ?_
        refine lv_if_ne (tgt := 40) C.1 C.2.1 dX8_step_31 (by decide) (fun cn => ?_) (fun cn => ?_)
        · have hs := if_f cn hs
          refine lv_aload_n C.1 C.2.1 dX8_step_40 rfl (lv_at hl 0 rfl) ?_
          refine lv_iload C.1 C.2.1 dX8_step_41 (lv_at hl 5 rfl) ?_
          obtain ⟨r_43, hc, hs⟩ := bd_e hs
          refine M_call C hI (kX8_isText l D cy q _ _ _ _ _ _ hc) ml_X8_306 im_X8_isText se_X8_isText ini_X8 co_X8_isText hyX8_isText rfl ⟨by decide, by decide⟩ hl.1 rfl (Nat.le_of_ble_eq_true rfl) dX8_step_43 (fun H locs hI => ?_)
          refine lv_if_ne (tgt := 56) C.1 C.2.1 dX8_step_46 (by decide) (fun cn => ?_) (fun cn => ?_)
          · have hs := if_f cn hs
            refine lv_aload_n C.1 C.2.1 dX8_step_56 rfl (lv_at hl 0 rfl) ?_
            refine mg_1 C hI dX8_step_57 ?_
            refine lv_sipush (v := 1635) C.1 C.2.1 dX8_step_60 (by decide) ?_
            refine ma_1 C hI (by decide) dX8_step_63 ?_
            refine lv_topi (fun x6_64 ex6_64 => ?_)
            have hs := gv_at ex6_64 hs
            refine lv_istore (lv' := [(6, .int x6_64), (0, .ref (q 46)), (1, .int x1), (2, .int x2), (3, .int x3), (4, .int x4), (5, .int x5)]) C.1 C.2.1 dX8_step_64 hl (by decide) rfl (fun ls hl => ?_)
            refine lv_iload C.1 C.2.1 dX8_step_66 (lv_at hl 0 rfl) ?_
            obtain ⟨k_91, ek_91, hs⟩ := gv_ex hs
            have KJ_91 : ∀ (I : Nat → Int32) (J : Nat → Int64) (A : Nat → Nat → Int32) (B : Nat → Nat → Int64) (H : Heap) (locs : List Loc) (ls : Array Slot), k_91 I J A B = some (r, I2, J2, A2, B2) → MI D cy s s.heap H locs q I J A B → lv_has ls 9 [(0, .ref (q 46)), (1, .int x1), (2, .int x2), (3, .int x3), (4, .int x4), (5, .int x5), (6, .int x6_64)] → W p l e (rmL 78) s m args below meth c H locs 0 0 (MQ below (mQ D cy q (some (.int r)) I2 J2 A2 B2) args s 0 0 (MA q)) (F0 m 91 ls []) := by
              intro I J A B H locs ls hs hI hl
              rw [ek_91] at hs
              refine lv_iload C.1 C.2.1 dX8_step_91 (lv_at hl 6 rfl) ?_
              refine lv_bipush (v := 60) C.1 C.2.1 dX8_step_93 (by decide) ?_
              refine lv_icmp_ne (tgt := 105) C.1 C.2.1 dX8_step_95 (by decide) (fun cn => ?_) (fun cn => ?_)
              · have hs := if_f cn hs
                refine lv_aload_n C.1 C.2.1 dX8_step_105 rfl (lv_at hl 0 rfl) ?_
                refine lv_iload_n C.1 C.2.1 dX8_step_106 rfl (lv_at hl 2 rfl) ?_
                refine lv_iload_n C.1 C.2.1 dX8_step_107 rfl (lv_at hl 3 rfl) ?_
                obtain ⟨A, hc, hs⟩ := bd_e hs
                refine M_call C hI (kX8_becomes l D cy q _ _ _ _ _ _ _ hc) ml_X8_319 im_X8_becomes se_X8_becomes ini_X8 co_X8_becomes hyX8_becomes rfl ⟨by decide, by decide⟩ hl.1 rfl (Nat.le_of_ble_eq_true rfl) dX8_step_108 (fun H locs hI => ?_)
                refine lv_aload_n C.1 C.2.1 dX8_step_111 rfl (lv_at hl 0 rfl) ?_
                refine lv_iload_n C.1 C.2.1 dX8_step_112 rfl (lv_at hl 2 rfl) ?_
                obtain ⟨r_113, hc, hs⟩ := bd_e hs
                refine M_call C hI (kX8_holdsOf l D cy q _ _ _ _ _ _ hc) ml_X8_103 im_X8_holdsOf se_X8_holdsOf ini_X8 co_X8_holdsOf hyX8_holdsOf rfl ⟨by decide, by decide⟩ hl.1 rfl (Nat.le_of_ble_eq_true rfl) dX8_step_113 (fun H locs hI => ?_)
                refine lv_i2l C.1 C.2.1 dX8_step_116 rfl ?_
                refine lv_aload_n C.1 C.2.1 dX8_step_117 rfl (lv_at hl 0 rfl) ?_
                refine lv_iload C.1 C.2.1 dX8_step_118 (lv_at hl 5 rfl) ?_
                refine lv_iload_n C.1 C.2.1 dX8_step_120 rfl (lv_at hl 2 rfl) ?_
                refine lv_iload_n C.1 C.2.1 dX8_step_121 rfl (lv_at hl 1 rfl) ?_
                obtain ⟨⟨r_122, I, J, A, B⟩, hc, hs⟩ := bd_e hs
                refine M_call C hI (kX8_needOf l D cy q _ _ _ _ _ _ _ _ _ _ _ _ hc) ml_X8_312 im_X8_needOf se_X8_needOf ini_X8 co_X8_needOf hyX8_needOf rfl ⟨by decide, by decide⟩ hl.1 rfl (Nat.le_of_ble_eq_true rfl) dX8_step_122 (fun H locs hI => ?_)
                refine W.lcmp C.1 C.2.1 dX8_step_125 ?_
                obtain ⟨v_134, ev_134, hs⟩ := gv_ex hs
                have KP_134 : W p l e (rmL 78) s m args below meth c H locs 0 0 (MQ below (mQ D cy q (some (.int r)) I2 J2 A2 B2) args s 0 0 (MA q)) (F0 m 134 ls [.int v_134]) := by
                  refine lv_istore (lv' := [(7, .int v_134), (0, .ref (q 46)), (1, .int x1), (2, .int x2), (3, .int x3), (4, .int x4), (5, .int x5), (6, .int x6_64)]) C.1 C.2.1 dX8_step_134 hl (by decide) rfl (fun ls hl => ?_)
                  refine lv_sipush (v := 213) C.1 C.2.1 dX8_step_136 (by decide) ?_
                  refine lv_bipush (v := 6) C.1 C.2.1 dX8_step_139 (by decide) ?_
                  refine lv_iload C.1 C.2.1 dX8_step_141 (lv_at hl 7 rfl) ?_
                  refine lv_imul C.1 C.2.1 dX8_step_143 ?_
                  refine lv_iadd C.1 C.2.1 dX8_step_144 ?_
                  refine lv_topi (fun x8_145 ex8_145 => ?_)
                  have hs := gv_at ex8_145 hs
                  refine lv_istore (lv' := [(8, .int x8_145), (7, .int v_134), (0, .ref (q 46)), (1, .int x1), (2, .int x2), (3, .int x3), (4, .int x4), (5, .int x5), (6, .int x6_64)]) C.1 C.2.1 dX8_step_145 hl (by decide) rfl (fun ls hl => ?_)
                  refine lv_aload_n C.1 C.2.1 dX8_step_147 rfl (lv_at hl 2 rfl) ?_
                  refine mg_1 C hI dX8_step_148 ?_
                  refine lv_iload C.1 C.2.1 dX8_step_151 (lv_at hl 0 rfl) ?_
                  refine lv_iload_n C.1 C.2.1 dX8_step_153 rfl (lv_at hl 3 rfl) ?_
                  obtain ⟨hk, hs⟩ := ck_e hs
                  refine ms_1 C hI hk dX8_step_154 (fun H locs hI => ?_)
                  have hs := gv_be hs
                  refine lv_aload_n C.1 C.2.1 dX8_step_155 rfl (lv_at hl 2 rfl) ?_
                  refine mg_1 C hI dX8_step_156 ?_
                  refine lv_iload C.1 C.2.1 dX8_step_159 (lv_at hl 0 rfl) ?_
                  refine lv_iconst (v := 1) C.1 C.2.1 dX8_step_161 (by decide) ?_
                  refine lv_iadd C.1 C.2.1 dX8_step_162 ?_
                  refine lv_iload_n C.1 C.2.1 dX8_step_163 rfl (lv_at hl 4 rfl) ?_
                  obtain ⟨hk, hs⟩ := ck_e hs
                  refine ms_1 C hI hk dX8_step_164 (fun H locs hI => ?_)
                  have hs := gv_be hs
                  refine lv_aload_n C.1 C.2.1 dX8_step_165 rfl (lv_at hl 2 rfl) ?_
                  refine mg_1 C hI dX8_step_166 ?_
                  refine lv_iload C.1 C.2.1 dX8_step_169 (lv_at hl 0 rfl) ?_
                  refine lv_iconst (v := 2) C.1 C.2.1 dX8_step_171 (by decide) ?_
                  refine lv_iadd C.1 C.2.1 dX8_step_172 ?_
                  refine lv_iload_n C.1 C.2.1 dX8_step_173 rfl (lv_at hl 5 rfl) ?_
                  obtain ⟨hk, hs⟩ := ck_e hs
                  refine ms_1 C hI hk dX8_step_174 (fun H locs hI => ?_)
                  have hs := gv_be hs
                  refine lv_aload_n C.1 C.2.1 dX8_step_175 rfl (lv_at hl 2 rfl) ?_
                  refine mg_1 C hI dX8_step_176 ?_
                  refine lv_iload C.1 C.2.1 dX8_step_179 (lv_at hl 0 rfl) ?_
                  refine lv_iconst (v := 3) C.1 C.2.1 dX8_step_181 (by decide) ?_
                  refine lv_iadd C.1 C.2.1 dX8_step_182 ?_
                  refine lv_iload C.1 C.2.1 dX8_step_183 (lv_at hl 6 rfl) ?_
                  obtain ⟨hk, hs⟩ := ck_e hs
                  refine ms_1 C hI hk dX8_step_185 (fun H locs hI => ?_)
                  have hs := gv_be hs
                  refine lv_aload_n C.1 C.2.1 dX8_step_186 rfl (lv_at hl 2 rfl) ?_
                  refine mg_1 C hI dX8_step_187 ?_
                  refine lv_iload C.1 C.2.1 dX8_step_190 (lv_at hl 0 rfl) ?_
                  refine lv_iconst (v := 4) C.1 C.2.1 dX8_step_192 (by decide) ?_
                  refine lv_iadd C.1 C.2.1 dX8_step_193 ?_
                  refine lv_iload C.1 C.2.1 dX8_step_194 (lv_at hl 7 rfl) ?_
                  obtain ⟨hk, hs⟩ := ck_e hs
                  refine ms_1 C hI hk dX8_step_196 (fun H locs hI => ?_)
                  have hs := gv_be hs
                  refine lv_aload_n C.1 C.2.1 dX8_step_197 rfl (lv_at hl 2 rfl) ?_
                  refine mg_1 C hI dX8_step_198 ?_
                  refine lv_iload C.1 C.2.1 dX8_step_201 (lv_at hl 0 rfl) ?_
                  refine lv_iconst (v := 5) C.1 C.2.1 dX8_step_203 (by decide) ?_
                  refine lv_iadd C.1 C.2.1 dX8_step_204 ?_
                  refine lv_iload C.1 C.2.1 dX8_step_205 (lv_at hl 1 rfl) ?_
                  obtain ⟨hk, hs⟩ := ck_e hs
                  refine ms_1 C hI hk dX8_step_207 (fun H locs hI => ?_)
                  have hs := gv_be hs
                  refine lv_aload_n C.1 C.2.1 dX8_step_208 rfl (lv_at hl 2 rfl) ?_
                  refine mg_1 C hI dX8_step_209 ?_
                  refine lv_sipush (v := 1635) C.1 C.2.1 dX8_step_212 (by decide) ?_
                  refine lv_dup2_11 C.1 C.2.1 dX8_step_215 rfl rfl ?_
                  refine ma_1 C hI (by decide) dX8_step_216 ?_
                  refine lv_iconst (v := 1) C.1 C.2.1 dX8_step_217 (by decide) ?_
                  refine lv_iadd C.1 C.2.1 dX8_step_218 ?_
                  refine ms_1 C hI (by decide) dX8_step_219 (fun H locs hI => ?_)
                  have hs := gv_be hs
                  refine lv_aload_n C.1 C.2.1 dX8_step_220 rfl (lv_at hl 2 rfl) ?_
                  refine lv_iload C.1 C.2.1 dX8_step_221 (lv_at hl 1 rfl) ?_
                  obtain ⟨⟨r_223, I⟩, hc, hs⟩ := bd_e hs
                  refine M_call C hI (kX8_good l D cy q _ _ _ _ _ _ _ hc) ml_X8_91 im_X8_good se_X8_good ini_X8 co_X8_good hyX8_good rfl ⟨by decide, by decide⟩ hl.1 rfl (Nat.le_of_ble_eq_true rfl) dX8_step_223 (fun H locs hI => ?_)
                  obtain ⟨rfl, rfl, rfl, rfl, rfl⟩ := so5 hs
                  exact M_iret C hI dX8_step_226
                refine lv_if_lt (tgt := 133) C.1 C.2.1 dX8_step_126 (by decide) (fun cn => ?_) (fun cn => ?_)
                · have ev_134 := if_t' cn ev_134
                  refine lv_iconst (v := 0) C.1 C.2.1 dX8_step_133 (by decide) ?_
                  subst ev_134
                  exact KP_134
                · have ev_134 := if_f' cn ev_134
                  refine lv_iconst (v := 1) C.1 C.2.1 dX8_step_129 (by decide) ?_
                  refine lv_goto (tgt := 134) C.1 C.2.1 dX8_step_130 (by decide) ?_
                  subst ev_134
                  exact KP_134
              · have hs := if_t cn hs
                refine lv_aload_n C.1 C.2.1 dX8_step_98 rfl (lv_at hl 0 rfl) ?_
                refine lv_bipush (v := -5) C.1 C.2.1 dX8_step_99 (by decide) ?_
                obtain ⟨⟨r_101, I⟩, hc, hs⟩ := bd_e hs
                refine M_call C hI (kX8_refuses l D cy q _ _ _ _ _ _ _ hc) ml_X8_87 im_X8_refuses se_X8_refuses ini_X8 co_X8_refuses hyX8_refuses rfl ⟨by decide, by decide⟩ hl.1 rfl (Nat.le_of_ble_eq_true rfl) dX8_step_101 (fun H locs hI => ?_)
                obtain ⟨rfl, rfl, rfl, rfl, rfl⟩ := so5 hs
                exact M_iret C hI dX8_step_104
            refine lv_if_le (tgt := 91) C.1 C.2.1 dX8_step_68 (by decide) (fun cn => ?_) (fun cn => ?_)
            · have hs := if_t cn hs
              exact KJ_91 _ _ _ _ _ _ _ hs hI (lv_sub hl [1, 2, 3, 4, 5, 6, 0] rfl)
            · have hs := if_f cn hs
              refine lv_iload_n C.1 C.2.1 dX8_step_71 rfl (lv_at hl 2 rfl) ?_
              refine lv_aload_n C.1 C.2.1 dX8_step_72 rfl (lv_at hl 1 rfl) ?_
              refine lv_iload C.1 C.2.1 dX8_step_73 (lv_at hl 0 rfl) ?_
              refine lv_iconst (v := 1) C.1 C.2.1 dX8_step_75 (by decide) ?_
              refine lv_isub C.1 C.2.1 dX8_step_76 ?_
              refine lv_iconst (v := 0) C.1 C.2.1 dX8_step_77 (by decide) ?_
              obtain ⟨r_78, hc, hs⟩ := bd_e hs
              refine M_call C hI (kX8_stepOf l D cy q _ _ _ _ _ _ _ hc) ml_X8_316 im_X8_stepOf se_X8_stepOf ini_X8 co_X8_stepOf hyX8_stepOf rfl ⟨by decide, by decide⟩ hl.1 rfl (Nat.le_of_ble_eq_true rfl) dX8_step_78 (fun H locs hI => ?_)
              refine lv_icmp_ge (tgt := 91) C.1 C.2.1 dX8_step_81 (by decide) (fun cn => ?_) (fun cn => ?_)
              · have hs := if_t cn hs
                exact KJ_91 _ _ _ _ _ _ _ hs hI (lv_sub hl [1, 2, 3, 4, 5, 6, 0] rfl)
              · have hs := if_f cn hs
                refine lv_aload_n C.1 C.2.1 dX8_step_84 rfl (lv_at hl 1 rfl) ?_
                refine lv_bipush (v := -3) C.1 C.2.1 dX8_step_85 (by decide) ?_
                obtain ⟨⟨r_87, I⟩, hc, hs⟩ := bd_e hs
                refine M_call C hI (kX8_refuses l D cy q _ _ _ _ _ _ _ hc) ml_X8_87 im_X8_refuses se_X8_refuses ini_X8 co_X8_refuses hyX8_refuses rfl ⟨by decide, by decide⟩ hl.1 rfl (Nat.le_of_ble_eq_true rfl) dX8_step_87 (fun H locs hI => ?_)
                obtain ⟨rfl, rfl, rfl, rfl, rfl⟩ := so5 hs
                exact M_iret C hI dX8_step_90
          · have hs := if_t cn hs
            refine lv_aload_n C.1 C.2.1 dX8_step_49 rfl (lv_at hl 0 rfl) ?_
            refine lv_bipush (v := -2) C.1 C.2.1 dX8_step_50 (by decide) ?_
            obtain ⟨⟨r_52, I⟩, hc, hs⟩ := bd_e hs
            refine M_call C hI (kX8_refuses l D cy q _ _ _ _ _ _ _ hc) ml_X8_87 im_X8_refuses se_X8_refuses ini_X8 co_X8_refuses hyX8_refuses rfl ⟨by decide, by decide⟩ hl.1 rfl (Nat.le_of_ble_eq_true rfl) dX8_step_52 (fun H locs hI => ?_)
            obtain ⟨rfl, rfl, rfl, rfl, rfl⟩ := so5 hs
            exact M_iret C hI dX8_step_55
        · have hs := if_t cn hs
          refine lv_aload_n C.1 C.2.1 dX8_step_34 rfl (lv_at hl 0 rfl) ?_
          refine lv_iconst (v := -1) C.1 C.2.1 dX8_step_35 (by decide) ?_
          obtain ⟨⟨r_36, I⟩, hc, hs⟩ := bd_e hs
          refine M_call C hI (kX8_refuses l D cy q _ _ _ _ _ _ _ hc) ml_X8_87 im_X8_refuses se_X8_refuses ini_X8 co_X8_refuses hyX8_refuses rfl ⟨by decide, by decide⟩ hl.1 rfl (Nat.le_of_ble_eq_true rfl) dX8_step_36 (fun H locs hI => ?_)
          obtain ⟨rfl, rfl, rfl, rfl, rfl⟩ := so5 hs
          exact M_iret C hI dX8_step_39

def lX8_first_33 : Nat → Int32 → Int32 → Int64 → Int32 → Int32 → (Nat → Int32) → (Nat → Int64) → (Nat → Nat → Int32) → (Nat → Nat → Int64) → Option ((Nat → Nat → Int64))
  | 0, _, _, _, _, _, _, _, _, _ => none
  | n + 1, x1, x2, x3, x5, x6, I, J, A, B =>
    if (10 : Int32) ≤ x6 then
    (some B)
    else
    ck (inB x6 10) <|
    gv (va_up B 32 (vp_updL (B 32) (ix x6) (0 : Int64))) fun B =>
    gv (x6 + 1) fun x6_48 =>
    lX8_first_33 n x1 x2 x3 x5 x6_48 I J A B
def lX8_first_57 : Nat → Int32 → Int32 → Int64 → Int32 → Int32 → (Nat → Int32) → (Nat → Int64) → (Nat → Nat → Int32) → (Nat → Nat → Int64) → Option ((Nat → Nat → Int32))
  | 0, _, _, _, _, _, _, _, _, _ => none
  | n + 1, x1, x2, x3, x5, x6, I, J, A, B =>
    if (4 : Int32) ≤ x6 then
    (some A)
    else
    ck (inB x6 4) <|
    gv (va_up A 33 (upd (A 33) (ix x6) (vp_nar .boolean (0 : Int32)))) fun A =>
    gv (x6 + 1) fun x6_71 =>
    lX8_first_57 n x1 x2 x3 x5 x6_71 I J A B
def lX8_first_17 : Nat → Int32 → Int32 → Int64 → Int32 → (Nat → Int32) → (Nat → Int64) → (Nat → Nat → Int32) → (Nat → Nat → Int64) → Option (Int32 × (Nat → Int32) × (Nat → Int64) × (Nat → Nat → Int32) × (Nat → Nat → Int64))
  | 0, _, _, _, _, _, _, _, _ => none
  | n + 1, x1, x2, x3, x5, I, J, A, B =>
    if (A 1 (ix (1638 : Int32))) ≤ x5 then
    (some (x2, I, J, A, B))
    else
    (lX8_first_33 FU x1 x2 x3 x5 (0 : Int32) I J A B).bind fun B =>
    (lX8_first_57 FU x1 x2 x3 x5 (0 : Int32) I J A B).bind fun A =>
    ck (inB (((1573 : Int32) + ((5 : Int32) * x5)) + (3 : Int32)) 8047) <|
    gv (va_up B 32 (vp_updL (B 32) (ix (6 : Int32)) (((A 1 (ix (((1573 : Int32) + ((5 : Int32) * x5)) + (3 : Int32))))).toInt64))) fun B =>
    ck (inB ((1573 : Int32) + ((5 : Int32) * x5)) 8047) <|
    gv (va_up B 32 (vp_updL (B 32) (ix (7 : Int32)) (((A 1 (ix ((1573 : Int32) + ((5 : Int32) * x5))))).toInt64))) fun B =>
    ck (inB (((1573 : Int32) + ((5 : Int32) * x5)) + (1 : Int32)) 8047) <|
    gv (va_up B 32 (vp_updL (B 32) (ix (8 : Int32)) (((A 1 (ix (((1573 : Int32) + ((5 : Int32) * x5)) + (1 : Int32))))).toInt64))) fun B =>
    ck (inB (((1573 : Int32) + ((5 : Int32) * x5)) + (2 : Int32)) 8047) <|
    gv (va_up B 32 (vp_updL (B 32) (ix (9 : Int32)) (((A 1 (ix (((1573 : Int32) + ((5 : Int32) * x5)) + (2 : Int32))))).toInt64))) fun B =>
    ck (inB (((1573 : Int32) + ((5 : Int32) * x5)) + (4 : Int32)) 8047) <|
    gv (if (A 1 (ix (((1573 : Int32) + ((5 : Int32) * x5)) + (4 : Int32)))) = (1 : Int32) then (1 : Int32) else (0 : Int32)) fun v_196 =>
    gv (va_up A 33 (upd (A 33) (ix (1 : Int32)) (vp_nar .boolean v_196))) fun A =>
    (sX8_asks x1 I J A B).bind fun (I, J) =>
    if (I 37) = 0 then
    (gv (x5 + 1) fun x5_234 =>
    lX8_first_17 n x1 x2 x3 x5_234 I J A B)
    else
    if x2 = (-1 : Int32) then
    (gv (J 35) fun x3_233 =>
    gv (x5 + 1) fun x5_234 =>
    lX8_first_17 n x1 x5 x3_233 x5_234 I J A B)
    else
    if 0 < (lg_cmp (J 35) x3) then
    (gv (J 35) fun x3_233 =>
    gv (x5 + 1) fun x5_234 =>
    lX8_first_17 n x1 x5 x3_233 x5_234 I J A B)
    else
    gv (x5 + 1) fun x5_234 =>
    lX8_first_17 n x1 x2 x3 x5_234 I J A B
def sX8_first (x1 : Int32) (I : Nat → Int32) (J : Nat → Int64) (A : Nat → Nat → Int32) (B : Nat → Nat → Int64) : Option ((Int32) × (Nat → Int32) × (Nat → Int64) × (Nat → Nat → Int32) × (Nat → Nat → Int64)) :=
(sX8_isText x1 I J A B).bind fun r_2 =>
if r_2 = 0 then
(some ((-1 : Int32), I, J, A, B))
else
(lX8_first_17 FU x1 (-1 : Int32) (0 : Int64) (0 : Int32) I J A B).bind fun (x2_17, I, J, A, B) =>
some (x2_17, I, J, A, B)
set_option maxRecDepth 100000 in
set_option maxHeartbeats 8000000 in
theorem kX8_first (l : Launch) (D : va_G) (cy : Nat → ClassId) (q : Nat → Nat) (x1 : Int32) (I : Nat → Int32) (J : Nat → Int64) (A : Nat → Nat → Int32) (B : Nat → Nat → Int64) (r : Int32) (I2 : Nat → Int32) (J2 : Nat → Int64) (A2 : Nat → Nat → Int32) (B2 : Nat → Nat → Int64) (hs : sX8_first x1 I J A B = some (r, I2, J2, A2, B2)) : McI l yX8_first cX8_first 7 (some .int) 77 [.ref (q 46), .int x1] D cy q I J A B (some (.int r)) I2 J2 A2 B2 := by
  refine M_start rfl rfl (Nat.le_of_ble_eq_true rfl) ?_
  intro p e s m args below meth c H locs C hI ls hl
  have hl : lv_has ls 7 [(0, .ref (q 46)), (1, .int x1)] := hl
  rw [sX8_first] at hs
  refine lv_aload_n C.1 C.2.1 dX8_first_0 rfl (lv_at hl 0 rfl) ?_
  refine lv_iload_n C.1 C.2.1 dX8_first_1 rfl (lv_at hl 1 rfl) ?_
  obtain ⟨r_2, hc, hs⟩ := bd_e hs
  refine M_call C hI (kX8_isText l D cy q _ _ _ _ _ _ hc) ml_X8_306 im_X8_isText se_X8_isText ini_X8 co_X8_isText hyX8_isText rfl ⟨by decide, by decide⟩ hl.1 rfl (Nat.le_of_ble_eq_true rfl) dX8_first_2 (fun H locs hI => ?_)
  refine lv_if_ne (tgt := 10) C.1 C.2.1 dX8_first_5 (by decide) (fun cn => ?_) (fun cn => ?_)
  · have hs := if_f cn hs
    refine lv_iconst (v := -1) C.1 C.2.1 dX8_first_10 (by decide) ?_
    refine lv_istore_n (lv' := [(2, .int (-1 : Int32)), (0, .ref (q 46)), (1, .int x1)]) C.1 C.2.1 dX8_first_11 rfl hl (by decide) rfl (fun ls hl => ?_)
    refine lv_lconst (v := 0) C.1 C.2.1 dX8_first_12 (by decide) ?_
    refine lv_lstore_n (lv' := [(3, .long (0 : Int64)), (2, .int (-1 : Int32)), (0, .ref (q 46)), (1, .int x1)]) C.1 C.2.1 dX8_first_13 rfl hl (by decide) rfl (fun ls hl => ?_)
    refine lv_iconst (v := 0) C.1 C.2.1 dX8_first_14 (by decide) ?_
    refine lv_istore (lv' := [(5, .int (0 : Int32)), (3, .long (0 : Int64)), (2, .int (-1 : Int32)), (0, .ref (q 46)), (1, .int x1)]) C.1 C.2.1 dX8_first_15 hl (by decide) rfl (fun ls hl => ?_)
    have KL_17 : ∀ (n : Nat) (x1 : Int32) (x2 : Int32) (x3 : Int64) (x5 : Int32) (I : Nat → Int32) (J : Nat → Int64) (A : Nat → Nat → Int32) (B : Nat → Nat → Int64) (o : Int32 × (Nat → Int32) × (Nat → Int64) × (Nat → Nat → Int32) × (Nat → Nat → Int64)) (Q : State → Prop) (H : Heap) (locs : List Loc) (ls : Array Slot), lX8_first_17 n x1 x2 x3 x5 I J A B = some o → MI D cy s s.heap H locs q I J A B → lv_has ls 7 [(0, .ref (q 46)), (1, .int x1), (2, .int x2), (3, .long x3), (5, .int x5)] → (∀ (o2_0 : Int32) (I_0 : Nat → Int32) (J_0 : Nat → Int64) (A_0 : Nat → Nat → Int32) (B_0 : Nat → Nat → Int64) (H : Heap) (locs : List Loc) (ls : Array Slot), o = (o2_0, I_0, J_0, A_0, B_0) → MI D cy s s.heap H locs q I_0 J_0 A_0 B_0 → lv_has ls 7 [(2, .int o2_0)] → W p l e (rmL 77) s m args below meth c H locs 0 0 Q (F0 m 240 ls [])) → W p l e (rmL 77) s m args below meth c H locs 0 0 Q (F0 m 17 ls []) := by
      intro n; induction n with
      | zero => intro x1 x2 x3 x5 I J A B o Q H locs ls hs; rw [lX8_first_17] at hs; cases hs
      | succ n ih =>
        intro x1 x2 x3 x5 I J A B o Q H locs ls hs hI hl kk0
        rw [lX8_first_17] at hs
        refine lv_iload C.1 C.2.1 dX8_first_17 (lv_at hl 4 rfl) ?_
        refine lv_aload_n C.1 C.2.1 dX8_first_19 rfl (lv_at hl 0 rfl) ?_
        refine mg_1 C hI dX8_first_20 ?_
        refine lv_sipush (v := 1638) C.1 C.2.1 dX8_first_23 (by decide) ?_
        refine ma_1 C hI (by decide) dX8_first_26 ?_
        refine lv_icmp_ge (tgt := 240) C.1 C.2.1 dX8_first_27 (by decide) (fun cn => ?_) (fun cn => ?_)
        · have hs := if_t cn hs
          have eo := (Option.some.inj hs).symm
          exact kk0 _ _ _ _ _ _ _ _ eo hI (lv_sub hl [2] rfl)
        · have hs := if_f cn hs
          refine lv_iconst (v := 0) C.1 C.2.1 dX8_first_30 (by decide) ?_
          refine lv_istore (lv' := [(6, .int (0 : Int32)), (0, .ref (q 46)), (1, .int x1), (2, .int x2), (3, .long x3), (5, .int x5)]) C.1 C.2.1 dX8_first_31 hl (by decide) rfl (fun ls hl => ?_)
          have KL_33 : ∀ (n : Nat) (x1 : Int32) (x2 : Int32) (x3 : Int64) (x5 : Int32) (x6 : Int32) (I : Nat → Int32) (J : Nat → Int64) (A : Nat → Nat → Int32) (B : Nat → Nat → Int64) (o : (Nat → Nat → Int64)) (Q : State → Prop) (H : Heap) (locs : List Loc) (ls : Array Slot), lX8_first_33 n x1 x2 x3 x5 x6 I J A B = some o → MI D cy s s.heap H locs q I J A B → lv_has ls 7 [(0, .ref (q 46)), (1, .int x1), (2, .int x2), (3, .long x3), (5, .int x5), (6, .int x6)] → (∀ (B_0 : Nat → Nat → Int64) (H : Heap) (locs : List Loc) (ls : Array Slot), o = B_0 → MI D cy s s.heap H locs q I J A B_0 → lv_has ls 7 [(0, .ref (q 46)), (1, .int x1), (2, .int x2), (3, .long x3), (5, .int x5)] → W p l e (rmL 77) s m args below meth c H locs 0 0 Q (F0 m 54 ls [])) → W p l e (rmL 77) s m args below meth c H locs 0 0 Q (F0 m 33 ls []) := by
            intro n; induction n with
            | zero => intro x1 x2 x3 x5 x6 I J A B o Q H locs ls hs; rw [lX8_first_33] at hs; cases hs
            | succ n ih =>
              intro x1 x2 x3 x5 x6 I J A B o Q H locs ls hs hI hl kk0
              rw [lX8_first_33] at hs
              refine lv_iload C.1 C.2.1 dX8_first_33 (lv_at hl 5 rfl) ?_
              refine lv_bipush (v := 10) C.1 C.2.1 dX8_first_35 (by decide) ?_
              refine lv_icmp_ge (tgt := 54) C.1 C.2.1 dX8_first_37 (by decide) (fun cn => ?_) (fun cn => ?_)
              · have hs := if_t cn hs
                have eo := (Option.some.inj hs).symm
                exact kk0 _ _ _ _ eo hI (lv_sub hl [0, 1, 2, 3, 4] rfl)
              · have hs := if_f cn hs
                refine lv_aload_n C.1 C.2.1 dX8_first_40 rfl (lv_at hl 0 rfl) ?_
                refine mg_32 C hI dX8_first_41 ?_
                refine lv_iload C.1 C.2.1 dX8_first_44 (lv_at hl 5 rfl) ?_
                refine lv_lconst (v := 0) C.1 C.2.1 dX8_first_46 (by decide) ?_
                obtain ⟨hk, hs⟩ := ck_e hs
                refine ms_32 C hI hk dX8_first_47 (fun H locs hI => ?_)
                have hs := gv_be hs
                obtain ⟨x6_48, ex6_48⟩ : ∃ y : Int32, y = (x6 + 1) := ⟨_, rfl⟩
                have hs := gv_at ex6_48 hs
                refine lv_iinc (v := x6_48) (lv' := [(6, .int x6_48), (0, .ref (q 46)), (1, .int x1), (2, .int x2), (3, .long x3), (5, .int x5)]) C.1 C.2.1 dX8_first_48 hl (k := 5) rfl (by rw [ex6_48]; rfl) (by decide) rfl (fun ls hl => ?_)
                refine lv_goto (tgt := 33) C.1 C.2.1 dX8_first_51 (by decide) ?_
                exact ih _ _ _ _ _ _ _ _ _ _ _ _ _ _ hs hI (lv_sub hl [1, 2, 3, 4, 5, 0] rfl) kk0
          obtain ⟨B_L, hL, hs⟩ := bd_e hs
          refine KL_33 FU _ _ _ _ _ _ _ _ _ _ _ _ _ _ hL hI (lv_sub hl [1, 2, 3, 4, 5, 0] rfl) (fun z0 H locs ls eo hI hl => ?_)
          subst eo
          refine lv_iconst (v := 0) C.1 C.2.1 dX8_first_54 (by decide) ?_
          refine lv_istore (lv' := [(6, .int (0 : Int32)), (0, .ref (q 46)), (1, .int x1), (2, .int x2), (3, .long x3), (5, .int x5)]) C.1 C.2.1 dX8_first_55 hl (by decide) rfl (fun ls hl => ?_)
          have KL_57 : ∀ (n : Nat) (x1 : Int32) (x2 : Int32) (x3 : Int64) (x5 : Int32) (x6 : Int32) (I : Nat → Int32) (J : Nat → Int64) (A : Nat → Nat → Int32) (B : Nat → Nat → Int64) (o : (Nat → Nat → Int32)) (Q : State → Prop) (H : Heap) (locs : List Loc) (ls : Array Slot), lX8_first_57 n x1 x2 x3 x5 x6 I J A B = some o → MI D cy s s.heap H locs q I J A B → lv_has ls 7 [(0, .ref (q 46)), (1, .int x1), (2, .int x2), (3, .long x3), (5, .int x5), (6, .int x6)] → (∀ (A_0 : Nat → Nat → Int32) (H : Heap) (locs : List Loc) (ls : Array Slot), o = A_0 → MI D cy s s.heap H locs q I J A_0 B → lv_has ls 7 [(0, .ref (q 46)), (1, .int x1), (2, .int x2), (3, .long x3), (5, .int x5)] → W p l e (rmL 77) s m args below meth c H locs 0 0 Q (F0 m 77 ls [])) → W p l e (rmL 77) s m args below meth c H locs 0 0 Q (F0 m 57 ls []) := by
            intro n; induction n with
            | zero => intro x1 x2 x3 x5 x6 I J A B o Q H locs ls hs; rw [lX8_first_57] at hs; cases hs
            | succ n ih =>
              intro x1 x2 x3 x5 x6 I J A B o Q H locs ls hs hI hl kk0
              rw [lX8_first_57] at hs
              refine lv_iload C.1 C.2.1 dX8_first_57 (lv_at hl 5 rfl) ?_
              refine lv_iconst (v := 4) C.1 C.2.1 dX8_first_59 (by decide) ?_
              refine lv_icmp_ge (tgt := 77) C.1 C.2.1 dX8_first_60 (by decide) (fun cn => ?_) (fun cn => ?_)
              · have hs := if_t cn hs
                have eo := (Option.some.inj hs).symm
                exact kk0 _ _ _ _ eo hI (lv_sub hl [0, 1, 2, 3, 4] rfl)
              · have hs := if_f cn hs
                refine lv_aload_n C.1 C.2.1 dX8_first_63 rfl (lv_at hl 0 rfl) ?_
                refine mg_33 C hI dX8_first_64 ?_
                refine lv_iload C.1 C.2.1 dX8_first_67 (lv_at hl 5 rfl) ?_
                refine lv_iconst (v := 0) C.1 C.2.1 dX8_first_69 (by decide) ?_
                obtain ⟨hk, hs⟩ := ck_e hs
                refine ms_33 C hI hk dX8_first_70 (fun H locs hI => ?_)
                have hs := gv_be hs
                obtain ⟨x6_71, ex6_71⟩ : ∃ y : Int32, y = (x6 + 1) := ⟨_, rfl⟩
                have hs := gv_at ex6_71 hs
                refine lv_iinc (v := x6_71) (lv' := [(6, .int x6_71), (0, .ref (q 46)), (1, .int x1), (2, .int x2), (3, .long x3), (5, .int x5)]) C.1 C.2.1 dX8_first_71 hl (k := 5) rfl (by rw [ex6_71]; rfl) (by decide) rfl (fun ls hl => ?_)
                refine lv_goto (tgt := 57) C.1 C.2.1 dX8_first_74 (by decide) ?_
                exact ih _ _ _ _ _ _ _ _ _ _ _ _ _ _ hs hI (lv_sub hl [1, 2, 3, 4, 5, 0] rfl) kk0
          obtain ⟨A_L, hL, hs⟩ := bd_e hs
          refine KL_57 FU _ _ _ _ _ _ _ _ _ _ _ _ _ _ hL hI (lv_sub hl [1, 2, 3, 4, 5, 0] rfl) (fun z0 H locs ls eo hI hl => ?_)
          subst eo
          refine lv_aload_n C.1 C.2.1 dX8_first_77 rfl (lv_at hl 0 rfl) ?_
          refine mg_32 C hI dX8_first_78 ?_
          refine lv_bipush (v := 6) C.1 C.2.1 dX8_first_81 (by decide) ?_
          refine lv_aload_n C.1 C.2.1 dX8_first_83 rfl (lv_at hl 0 rfl) ?_
          refine mg_1 C hI dX8_first_84 ?_
          refine lv_sipush (v := 1573) C.1 C.2.1 dX8_first_87 (by decide) ?_
          refine lv_iconst (v := 5) C.1 C.2.1 dX8_first_90 (by decide) ?_
          refine lv_iload C.1 C.2.1 dX8_first_91 (lv_at hl 4 rfl) ?_
          refine lv_imul C.1 C.2.1 dX8_first_93 ?_
          refine lv_iadd C.1 C.2.1 dX8_first_94 ?_
          refine lv_iconst (v := 3) C.1 C.2.1 dX8_first_95 (by decide) ?_
          refine lv_iadd C.1 C.2.1 dX8_first_96 ?_
          obtain ⟨hk, hs⟩ := ck_e hs
          refine ma_1 C hI hk dX8_first_97 ?_
          refine lv_i2l C.1 C.2.1 dX8_first_98 rfl ?_
          refine ms_32 C hI (by decide) dX8_first_99 (fun H locs hI => ?_)
          have hs := gv_be hs
          refine lv_aload_n C.1 C.2.1 dX8_first_100 rfl (lv_at hl 0 rfl) ?_
          refine mg_32 C hI dX8_first_101 ?_
          refine lv_bipush (v := 7) C.1 C.2.1 dX8_first_104 (by decide) ?_
          refine lv_aload_n C.1 C.2.1 dX8_first_106 rfl (lv_at hl 0 rfl) ?_
          refine mg_1 C hI dX8_first_107 ?_
          refine lv_sipush (v := 1573) C.1 C.2.1 dX8_first_110 (by decide) ?_
          refine lv_iconst (v := 5) C.1 C.2.1 dX8_first_113 (by decide) ?_
          refine lv_iload C.1 C.2.1 dX8_first_114 (lv_at hl 4 rfl) ?_
          refine lv_imul C.1 C.2.1 dX8_first_116 ?_
          refine lv_iadd C.1 C.2.1 dX8_first_117 ?_
          obtain ⟨hk, hs⟩ := ck_e hs
          refine ma_1 C hI hk dX8_first_118 ?_
          refine lv_i2l C.1 C.2.1 dX8_first_119 rfl ?_
          refine ms_32 C hI (by decide) dX8_first_120 (fun H locs hI => ?_)
          have hs := gv_be hs
          refine lv_aload_n C.1 C.2.1 dX8_first_121 rfl (lv_at hl 0 rfl) ?_
          refine mg_32 C hI dX8_first_122 ?_
          refine lv_bipush (v := 8) C.1 C.2.1 dX8_first_125 (by decide) ?_
          refine lv_aload_n C.1 C.2.1 dX8_first_127 rfl (lv_at hl 0 rfl) ?_
          refine mg_1 C hI dX8_first_128 ?_
          refine lv_sipush (v := 1573) C.1 C.2.1 dX8_first_131 (by decide) ?_
          refine lv_iconst (v := 5) C.1 C.2.1 dX8_first_134 (by decide) ?_
          refine lv_iload C.1 C.2.1 dX8_first_135 (lv_at hl 4 rfl) ?_
          refine lv_imul C.1 C.2.1 dX8_first_137 ?_
          refine lv_iadd C.1 C.2.1 dX8_first_138 ?_
          refine lv_iconst (v := 1) C.1 C.2.1 dX8_first_139 (by decide) ?_
          refine lv_iadd C.1 C.2.1 dX8_first_140 ?_
          obtain ⟨hk, hs⟩ := ck_e hs
          refine ma_1 C hI hk dX8_first_141 ?_
          refine lv_i2l C.1 C.2.1 dX8_first_142 rfl ?_
          refine ms_32 C hI (by decide) dX8_first_143 (fun H locs hI => ?_)
          have hs := gv_be hs
          refine lv_aload_n C.1 C.2.1 dX8_first_144 rfl (lv_at hl 0 rfl) ?_
          refine mg_32 C hI dX8_first_145 ?_
          refine lv_bipush (v := 9) C.1 C.2.1 dX8_first_148 (by decide) ?_
          refine lv_aload_n C.1 C.2.1 dX8_first_150 rfl (lv_at hl 0 rfl) ?_
          refine mg_1 C hI dX8_first_151 ?_
          refine lv_sipush (v := 1573) C.1 C.2.1 dX8_first_154 (by decide) ?_
          refine lv_iconst (v := 5) C.1 C.2.1 dX8_first_157 (by decide) ?_
          refine lv_iload C.1 C.2.1 dX8_first_158 (lv_at hl 4 rfl) ?_
          refine lv_imul C.1 C.2.1 dX8_first_160 ?_
          refine lv_iadd C.1 C.2.1 dX8_first_161 ?_
          refine lv_iconst (v := 2) C.1 C.2.1 dX8_first_162 (by decide) ?_
          refine lv_iadd C.1 C.2.1 dX8_first_163 ?_
          obtain ⟨hk, hs⟩ := ck_e hs
          refine ma_1 C hI hk dX8_first_164 ?_
          refine lv_i2l C.1 C.2.1 dX8_first_165 rfl ?_
          refine ms_32 C hI (by decide) dX8_first_166 (fun H locs hI => ?_)
          have hs := gv_be hs
          refine lv_aload_n C.1 C.2.1 dX8_first_167 rfl (lv_at hl 0 rfl) ?_
          refine mg_33 C hI dX8_first_168 ?_
          refine lv_iconst (v := 1) C.1 C.2.1 dX8_first_171 (by decide) ?_
          refine lv_aload_n C.1 C.2.1 dX8_first_172 rfl (lv_at hl 0 rfl) ?_
          refine mg_1 C hI dX8_first_173 ?_
          refine lv_sipush (v := 1573) C.1 C.2.1 dX8_first_176 (by decide) ?_
          refine lv_iconst (v := 5) C.1 C.2.1 dX8_first_179 (by decide) ?_
          refine lv_iload C.1 C.2.1 dX8_first_180 (lv_at hl 4 rfl) ?_
          refine lv_imul C.1 C.2.1 dX8_first_182 ?_
          refine lv_iadd C.1 C.2.1 dX8_first_183 ?_
          refine lv_iconst (v := 4) C.1 C.2.1 dX8_first_184 (by decide) ?_
          refine lv_iadd C.1 C.2.1 dX8_first_185 ?_
          obtain ⟨hk, hs⟩ := ck_e hs
          refine ma_1 C hI hk dX8_first_186 ?_
          refine lv_iconst (v := 1) C.1 C.2.1 dX8_first_187 (by decide) ?_
          obtain ⟨v_196, ev_196, hs⟩ := gv_ex hs
          have KP_196 : W p l e (rmL 77) s m args below meth c H locs 0 0 Q (F0 m 196 ls [.int v_196, .int (1 : Int32), .ref (q 33)]) := by
            refine ms_33 C hI (by decide) dX8_first_196 (fun H locs hI => ?_)
            have hs := gv_be hs
            refine lv_aload_n C.1 C.2.1 dX8_first_197 rfl (lv_at hl 0 rfl) ?_
            refine lv_iload_n C.1 C.2.1 dX8_first_198 rfl (lv_at hl 1 rfl) ?_
            obtain ⟨⟨I, J⟩, hc, hs⟩ := bd_e hs
            refine M_call C hI (kX8_asks l D cy q _ _ _ _ _ _ _ hc) ml_X8_303 im_X8_asks se_X8_asks ini_X8 co_X8_asks hyX8_asks rfl ⟨by decide, by decide⟩ hl.1 rfl (Nat.le_of_ble_eq_true rfl) dX8_first_199 (fun H locs hI => ?_)
            refine lv_aload_n C.1 C.2.1 dX8_first_202 rfl (lv_at hl 0 rfl) ?_
            refine mg_37 C hI dX8_first_203 ?_
            refine lv_if_eq (tgt := 234) C.1 C.2.1 dX8_first_206 (by decide) (fun cn => ?_) (fun cn => ?_)
            · have hs := if_t cn hs
              obtain ⟨x5_234, ex5_234⟩ : ∃ y : Int32, y = (x5 + 1) := ⟨_, rfl⟩
              have hs := gv_at ex5_234 hs
              refine lv_iinc (v := x5_234) (lv' := [(5, .int x5_234), (0, .ref (q 46)), (1, .int x1), (2, .int x2), (3, .long x3)]) C.1 C.2.1 dX8_first_234 hl (k := 4) rfl (by rw [ex5_234]; rfl) (by decide) rfl (fun ls hl => ?_)
              refine lv_goto (tgt := 17) C.1 C.2.1 dX8_first_237 (by decide) ?_
              exact ih _ _ _ _ _ _ _ _ _ _ _ _ _ hs hI (lv_sub hl [1, 2, 3, 4, 0] rfl) kk0
            · have hs := if_f cn hs
              refine lv_iload_n C.1 C.2.1 dX8_first_209 rfl (lv_at hl 2 rfl) ?_
              refine lv_iconst (v := -1) C.1 C.2.1 dX8_first_210 (by decide) ?_
              refine lv_icmp_eq (tgt := 226) C.1 C.2.1 dX8_first_211 (by decide) (fun cn => ?_) (fun cn => ?_)
              · have hs := if_t cn hs
                refine lv_iload C.1 C.2.1 dX8_first_226 (lv_at hl 4 rfl) ?_
                refine lv_istore_n (lv' := [(2, .int x5), (0, .ref (q 46)), (1, .int x1), (3, .long x3), (5, .int x5)]) C.1 C.2.1 dX8_first_228 rfl hl (by decide) rfl (fun ls hl => ?_)
                refine lv_aload_n C.1 C.2.1 dX8_first_229 rfl (lv_at hl 1 rfl) ?_
                refine mg_35 C hI dX8_first_230 ?_
                refine lv_topl (fun x3_233 ex3_233 => ?_)
                have hs := gv_at ex3_233 hs
                refine lv_lstore_n (lv' := [(3, .long x3_233), (2, .int x5), (0, .ref (q 46)), (1, .int x1), (5, .int x5)]) C.1 C.2.1 dX8_first_233 rfl hl (by decide) rfl (fun ls hl => ?_)
                obtain ⟨x5_234, ex5_234⟩ : ∃ y : Int32, y = (x5 + 1) := ⟨_, rfl⟩
                have hs := gv_at ex5_234 hs
                refine lv_iinc (v := x5_234) (lv' := [(5, .int x5_234), (3, .long x3_233), (2, .int x5), (0, .ref (q 46)), (1, .int x1)]) C.1 C.2.1 dX8_first_234 hl (k := 4) rfl (by rw [ex5_234]; rfl) (by decide) rfl (fun ls hl => ?_)
                refine lv_goto (tgt := 17) C.1 C.2.1 dX8_first_237 (by decide) ?_
                exact ih _ _ _ _ _ _ _ _ _ _ _ _ _ hs hI (lv_sub hl [3, 4, 2, 1, 0] rfl) kk0
              · have hs := if_f cn hs
                refine lv_aload_n C.1 C.2.1 dX8_first_214 rfl (lv_at hl 0 rfl) ?_
                refine mg_35 C hI dX8_first_215 ?_
                refine lv_lload_n C.1 C.2.1 dX8_first_218 rfl (lv_at hl 3 rfl) ?_
                refine W.lcmp C.1 C.2.1 dX8_first_219 ?_
                refine lv_if_gt (tgt := 226) C.1 C.2.1 dX8_first_220 (by decide) (fun cn => ?_) (fun cn => ?_)
                · have hs := if_t cn hs
                  refine lv_iload C.1 C.2.1 dX8_first_226 (lv_at hl 4 rfl) ?_
                  refine lv_istore_n (lv' := [(2, .int x5), (0, .ref (q 46)), (1, .int x1), (3, .long x3), (5, .int x5)]) C.1 C.2.1 dX8_first_228 rfl hl (by decide) rfl (fun ls hl => ?_)
                  refine lv_aload_n C.1 C.2.1 dX8_first_229 rfl (lv_at hl 1 rfl) ?_
                  refine mg_35 C hI dX8_first_230 ?_
                  refine lv_topl (fun x3_233 ex3_233 => ?_)
                  have hs := gv_at ex3_233 hs
                  refine lv_lstore_n (lv' := [(3, .long x3_233), (2, .int x5), (0, .ref (q 46)), (1, .int x1), (5, .int x5)]) C.1 C.2.1 dX8_first_233 rfl hl (by decide) rfl (fun ls hl => ?_)
                  obtain ⟨x5_234, ex5_234⟩ : ∃ y : Int32, y = (x5 + 1) := ⟨_, rfl⟩
                  have hs := gv_at ex5_234 hs
                  refine lv_iinc (v := x5_234) (lv' := [(5, .int x5_234), (3, .long x3_233), (2, .int x5), (0, .ref (q 46)), (1, .int x1)]) C.1 C.2.1 dX8_first_234 hl (k := 4) rfl (by rw [ex5_234]; rfl) (by decide) rfl (fun ls hl => ?_)
                  refine lv_goto (tgt := 17) C.1 C.2.1 dX8_first_237 (by decide) ?_
                  exact ih _ _ _ _ _ _ _ _ _ _ _ _ _ hs hI (lv_sub hl [3, 4, 2, 1, 0] rfl) kk0
                · have hs := if_f cn hs
                  refine lv_goto (tgt := 234) C.1 C.2.1 dX8_first_223 (by decide) ?_
                  obtain ⟨x5_234, ex5_234⟩ : ∃ y : Int32, y = (x5 + 1) := ⟨_, rfl⟩
                  have hs := gv_at ex5_234 hs
                  refine lv_iinc (v := x5_234) (lv' := [(5, .int x5_234), (0, .ref (q 46)), (1, .int x1), (2, .int x2), (3, .long x3)]) C.1 C.2.1 dX8_first_234 hl (k := 4) rfl (by rw [ex5_234]; rfl) (by decide) rfl (fun ls hl => ?_)
                  refine lv_goto (tgt := 17) C.1 C.2.1 dX8_first_237 (by decide) ?_
                  exact ih _ _ _ _ _ _ _ _ _ _ _ _ _ hs hI (lv_sub hl [1, 2, 3, 4, 0] rfl) kk0
          refine lv_icmp_ne (tgt := 195) C.1 C.2.1 dX8_first_188 (by decide) (fun cn => ?_) (fun cn => ?_)
          · have ev_196 := if_f' cn ev_196
            refine lv_iconst (v := 0) C.1 C.2.1 dX8_first_195 (by decide) ?_
            subst ev_196
            exact KP_196
          · have ev_196 := if_t' cn ev_196
            refine lv_iconst (v := 1) C.1 C.2.1 dX8_first_191 (by decide) ?_
            refine lv_goto (tgt := 196) C.1 C.2.1 dX8_first_192 (by decide) ?_
            subst ev_196
            exact KP_196
    obtain ⟨⟨x2_17, I_L, J_L, A_L, B_L⟩, hL, hs⟩ := bd_e hs
    refine KL_17 FU _ _ _ _ _ _ _ _ _ _ _ _ _ hL hI (lv_sub hl [3, 4, 2, 1, 0] rfl) (fun z0 z1 z2 z3 z4 H locs ls eo hI hl => ?_)
    obtain ⟨rfl, rfl, rfl, rfl, rfl⟩ := pr5 eo
    refine lv_iload_n C.1 C.2.1 dX8_first_240 rfl (lv_at hl 0 rfl) ?_
    obtain ⟨rfl, rfl, rfl, rfl, rfl⟩ := so5 hs
    exact M_iret C hI dX8_first_241
  · have hs := if_t cn hs
    refine lv_iconst (v := -1) C.1 C.2.1 dX8_first_8 (by decide) ?_
    obtain ⟨rfl, rfl, rfl, rfl, rfl⟩ := so5 hs
    exact M_iret C hI dX8_first_9
