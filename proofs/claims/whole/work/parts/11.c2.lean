def sX3_readBracketed_F (rs : Int32 → (Nat → Int32) → (Nat → Int64) → (Nat → Nat → Int32) → (Nat → Nat → Int64) → Option (Int32 × (Nat → Int32) × (Nat → Nat → Int32))) (rt : Int32 → (Nat → Int32) → (Nat → Int64) → (Nat → Nat → Int32) → (Nat → Nat → Int64) → Option (Int32 × (Nat → Int32) × (Nat → Nat → Int32))) (x1 : Int32) (x2 : Int32) (I : Nat → Int32) (J : Nat → Int64) (A : Nat → Nat → Int32) (B : Nat → Nat → Int64) : Option ((Int32) × (Nat → Int32) × (Nat → Nat → Int32)) :=
if x1 < (8 : Int32) then
((sX3_advance  I J A B).bind fun I =>
gv (fun (y0_j35 : Int32) (I : Nat → Int32) (A : Nat → Nat → Int32) =>
if y0_j35 = 0 then
(some ((0 : Int32), I, A))
else
if (I 84) = x2 then
((sX3_advance  I J A B).bind fun I =>
some ((1 : Int32), I, A))
else
some ((0 : Int32), I, A)) fun k_35 =>
if x2 = (41 : Int32) then
((rt (x1 + (1 : Int32)) I J A B).bind fun (r_22, I, A) =>
k_35 r_22 I A)
else
(rs (x1 + (1 : Int32)) I J A B).bind fun (r_32, I, A) =>
k_35 r_32 I A)
else
some ((0 : Int32), I, A)
set_option maxRecDepth 100000 in
set_option maxHeartbeats 8000000 in
theorem kX3_readBracketed_F (l : Launch) (D : va_G) (cy : Nat → ClassId) (P0 : Nat → Prop) (q z : Nat → Nat) (tl : va_W) (xx : (Nat → Option Nat) × (Nat → Option Nat) × Nat) (ha hd : Nat) (hle : ha ≤ hd) (hh : 8 ≤ hd) (rs : Int32 → (Nat → Int32) → (Nat → Int64) → (Nat → Nat → Int32) → (Nat → Nat → Int64) → Option (Int32 × (Nat → Int32) × (Nat → Nat → Int32))) (rt : Int32 → (Nat → Int32) → (Nat → Int64) → (Nat → Nat → Int32) → (Nat → Nat → Int64) → Option (Int32 × (Nat → Int32) × (Nat → Nat → Int32))) (hrs : ∀ (z0 : Int32) (I : Nat → Int32) (J : Nat → Int64) (A : Nat → Nat → Int32) (B : Nat → Nat → Int64) (r : Int32) (I2 : Nat → Int32) (A2 : Nat → Nat → Int32), rs z0 I J A B = some (r, I2, A2) → McC l yX3_readSum cX3_readSum 5 (some .boolean) ha [.ref (q 4), .int z0] D cy P0 q z tl (xx.1, xx.2.1, q 6) I J A B (some (.int r)) (xx.1, xx.2.1, q 6) I2 J A2 B) (hrt : ∀ (z0 : Int32) (I : Nat → Int32) (J : Nat → Int64) (A : Nat → Nat → Int32) (B : Nat → Nat → Int64) (r : Int32) (I2 : Nat → Int32) (A2 : Nat → Nat → Int32), rt z0 I J A B = some (r, I2, A2) → McC l yX3_readTest cX3_readTest 5 (some .boolean) hd [.ref (q 4), .int z0] D cy P0 q z tl (xx.1, xx.2.1, q 6) I J A B (some (.int r)) (xx.1, xx.2.1, q 6) I2 J A2 B) (x1 : Int32) (x2 : Int32) (I : Nat → Int32) (J : Nat → Int64) (A : Nat → Nat → Int32) (B : Nat → Nat → Int64) (r : Int32) (I2 : Nat → Int32) (A2 : Nat → Nat → Int32) (hs : sX3_readBracketed_F rs rt x1 x2 I J A B = some (r, I2, A2)) : McC l yX3_readBracketed cX3_readBracketed 4 (some .boolean) (hd + 1) [.ref (q 4), .int x1, .int x2] D cy P0 q z tl (xx.1, xx.2.1, q 6) I J A B (some (.int r)) (xx.1, xx.2.1, q 6) I2 J A2 B := by
  refine C_start rfl (Nat.le_of_ble_eq_true rfl) ?_
  intro p e s m args below meth c H locs C hI ls hl
  have hl : lv_has ls 4 [(0, .ref (q 4)), (1, .int x1), (2, .int x2)] := hl
  rw [sX3_readBracketed_F] at hs
  refine lv_iload_n C.1 C.2.1 dX3_readBracketed_0 rfl (lv_at hl 1 rfl) ?_
  refine lv_bipush (v := 8) C.1 C.2.1 dX3_readBracketed_1 (by decide) ?_
  refine lv_icmp_lt (tgt := 8) C.1 C.2.1 dX3_readBracketed_3 (by decide) (fun cn => ?_) (fun cn => ?_)
  · have hs := if_t cn hs
    refine lv_aload_n C.1 C.2.1 dX3_readBracketed_8 rfl (lv_at hl 0 rfl) ?_
    obtain ⟨I, hc, hs⟩ := bd_e hs
    refine C_call C hI (kX3_advance l D cy P0 q z tl xx _ _ _ _ _ hc) (rv_X3 hI) ml_X3_54 im_X3_advance se_X3_advance ini_X3 co_X3_advance hyX3_advance rfl ⟨by omega, by decide⟩ hl.1 rfl (Nat.le_of_ble_eq_true rfl) dX3_readBracketed_9 (fun H locs hI => ?_)
    refine lv_iload_n C.1 C.2.1 dX3_readBracketed_12 rfl (lv_at hl 2 rfl) ?_
    refine lv_bipush (v := 41) C.1 C.2.1 dX3_readBracketed_13 (by decide) ?_
    obtain ⟨k_35, ek_35, hs⟩ := gv_ex hs
    have KJ_35 : ∀ (y0_j35 : Int32) (I : Nat → Int32) (A : Nat → Nat → Int32) (H : Heap) (locs : List Loc) (ls : Array Slot), k_35 y0_j35 I A = some (r, I2, A2) → CI D cy s P0 s.heap H locs q z tl (xx.1, xx.2.1, q 6) I J A B → lv_has ls 4 [(0, .ref (q 4)), (2, .int x2)] → W p l e (rmL (hd + 1)) s m args below meth c H locs 0 0 (MQ below (cQ D cy P0 q tl (some (.int r)) (xx.1, xx.2.1, q 6) I2 J A2 B) args s 0 0 P0) (F0 m 35 ls [.int y0_j35]) := by
      intro y0_j35 I A H locs ls hs hI hl
      rw [ek_35] at hs
      refine lv_istore_n (lv' := [(3, .int y0_j35), (0, .ref (q 4)), (2, .int x2)]) C.1 C.2.1 dX3_readBracketed_35 rfl hl (by decide) rfl (fun ls hl => ?_)
      refine lv_iload_n C.1 C.2.1 dX3_readBracketed_36 rfl (lv_at hl 0 rfl) ?_
      refine lv_if_eq (tgt := 48) C.1 C.2.1 dX3_readBracketed_37 (by decide) (fun cn => ?_) (fun cn => ?_)
      · have hs := if_t cn hs
        refine lv_iconst (v := 0) C.1 C.2.1 dX3_readBracketed_48 (by decide) ?_
        obtain ⟨rfl, rfl, rfl⟩ := so3 hs
        exact C_zret C hI (by decide) dX3_readBracketed_49
      · have hs := if_f cn hs
        refine lv_aload_n C.1 C.2.1 dX3_readBracketed_40 rfl (lv_at hl 1 rfl) ?_
        refine cg_X3_84 C hI dX3_readBracketed_41 ?_
        refine lv_iload_n C.1 C.2.1 dX3_readBracketed_44 rfl (lv_at hl 2 rfl) ?_
        refine lv_icmp_eq (tgt := 50) C.1 C.2.1 dX3_readBracketed_45 (by decide) (fun cn => ?_) (fun cn => ?_)
        · have hs := if_t cn hs
          refine lv_aload_n C.1 C.2.1 dX3_readBracketed_50 rfl (lv_at hl 1 rfl) ?_
          obtain ⟨I, hc, hs⟩ := bd_e hs
          refine C_call C hI (kX3_advance l D cy P0 q z tl xx _ _ _ _ _ hc) (rv_X3 hI) ml_X3_54 im_X3_advance se_X3_advance ini_X3 co_X3_advance hyX3_advance rfl ⟨by omega, by decide⟩ hl.1 rfl (Nat.le_of_ble_eq_true rfl) dX3_readBracketed_51 (fun H locs hI => ?_)
          refine lv_iconst (v := 1) C.1 C.2.1 dX3_readBracketed_54 (by decide) ?_
          obtain ⟨rfl, rfl, rfl⟩ := so3 hs
          exact C_zret C hI (by decide) dX3_readBracketed_55
        · have hs := if_f cn hs
          refine lv_iconst (v := 0) C.1 C.2.1 dX3_readBracketed_48 (by decide) ?_
          obtain ⟨rfl, rfl, rfl⟩ := so3 hs
          exact C_zret C hI (by decide) dX3_readBracketed_49
    refine lv_icmp_ne (tgt := 28) C.1 C.2.1 dX3_readBracketed_15 (by decide) (fun cn => ?_) (fun cn => ?_)
    · have hs := if_f cn hs
      refine lv_aload_n C.1 C.2.1 dX3_readBracketed_28 rfl (lv_at hl 0 rfl) ?_
      refine lv_iload_n C.1 C.2.1 dX3_readBracketed_29 rfl (lv_at hl 1 rfl) ?_
      refine lv_iconst (v := 1) C.1 C.2.1 dX3_readBracketed_30 (by decide) ?_
      refine lv_iadd C.1 C.2.1 dX3_readBracketed_31 ?_
      obtain ⟨⟨r_32, I, A⟩, hc, hs⟩ := bd_e hs
      refine C_call C hI (hrs _ _ _ _ _ _ _ _ hc) (rv_X3 hI) ml_X3_96 im_X3_readSum se_X3_readSum ini_X3 co_X3_readSum hyX3_readSum rfl ⟨by omega, by decide⟩ hl.1 rfl (Nat.le_of_ble_eq_true rfl) dX3_readBracketed_32 (fun H locs hI => ?_)
      exact KJ_35 _ _ _ _ _ _ hs hI (lv_sub hl [0, 2] rfl)
    · have hs := if_t cn hs
      refine lv_aload_n C.1 C.2.1 dX3_readBracketed_18 rfl (lv_at hl 0 rfl) ?_
      refine lv_iload_n C.1 C.2.1 dX3_readBracketed_19 rfl (lv_at hl 1 rfl) ?_
      refine lv_iconst (v := 1) C.1 C.2.1 dX3_readBracketed_20 (by decide) ?_
      refine lv_iadd C.1 C.2.1 dX3_readBracketed_21 ?_
      obtain ⟨⟨r_22, I, A⟩, hc, hs⟩ := bd_e hs
      refine C_call C hI (hrt _ _ _ _ _ _ _ _ hc) (rv_X3 hI) ml_X3_99 im_X3_readTest se_X3_readTest ini_X3 co_X3_readTest hyX3_readTest rfl ⟨by omega, by decide⟩ hl.1 rfl (Nat.le_of_ble_eq_true rfl) dX3_readBracketed_22 (fun H locs hI => ?_)
      refine lv_goto (tgt := 35) C.1 C.2.1 dX3_readBracketed_25 (by decide) ?_
      exact KJ_35 _ _ _ _ _ _ hs hI (lv_sub hl [0, 2] rfl)
  · have hs := if_f cn hs
    refine lv_iconst (v := 0) C.1 C.2.1 dX3_readBracketed_6 (by decide) ?_
    obtain ⟨rfl, rfl, rfl⟩ := so3 hs
    exact C_zret C hI (by decide) dX3_readBracketed_7

def sX3_readPart_F (rs : Int32 → (Nat → Int32) → (Nat → Int64) → (Nat → Nat → Int32) → (Nat → Nat → Int64) → Option (Int32 × (Nat → Int32) × (Nat → Nat → Int32))) (rt : Int32 → (Nat → Int32) → (Nat → Int64) → (Nat → Nat → Int32) → (Nat → Nat → Int64) → Option (Int32 × (Nat → Int32) × (Nat → Nat → Int32))) (x1 : Int32) (I : Nat → Int32) (J : Nat → Int64) (A : Nat → Nat → Int32) (B : Nat → Nat → Int64) : Option ((Int32) × (Nat → Int32) × (Nat → Nat → Int32)) :=
if (I 84) = (91 : Int32) then
((sX3_readBracketed_F rs rt x1 (93 : Int32) I J A B).bind fun (r_13, I, A) =>
ck (isB r_13) <|
some (r_13, I, A))
else
gv (fun (y0_j51 : Int32) (I : Nat → Int32) (A : Nat → Nat → Int32) =>
if y0_j51 = 0 then
(some ((0 : Int32), I, A))
else
(sX3_readLeaf  I J A B).bind fun (r_57, I, A) =>
if r_57 = 0 then
(some ((0 : Int32), I, A))
else
some ((1 : Int32), I, A)) fun k_51 =>
gv (fun (I : Nat → Int32) (A : Nat → Nat → Int32) =>
k_51 (1 : Int32) I A) fun k_46 =>
if (I 84) = (-2 : Int32) then
(k_46 I A)
else
gv (fun (I : Nat → Int32) (A : Nat → Nat → Int32) =>
k_51 (0 : Int32) I A) fun k_50 =>
if (I 84) < (263 : Int32) then
(k_50 I A)
else
if (273 : Int32) ≤ (I 84) then
(k_50 I A)
else
k_46 I A
set_option maxRecDepth 100000 in
set_option maxHeartbeats 8000000 in
theorem kX3_readPart_F (l : Launch) (D : va_G) (cy : Nat → ClassId) (P0 : Nat → Prop) (q z : Nat → Nat) (tl : va_W) (xx : (Nat → Option Nat) × (Nat → Option Nat) × Nat) (ha hd : Nat) (hle : ha ≤ hd) (hh : 8 ≤ hd) (rs : Int32 → (Nat → Int32) → (Nat → Int64) → (Nat → Nat → Int32) → (Nat → Nat → Int64) → Option (Int32 × (Nat → Int32) × (Nat → Nat → Int32))) (rt : Int32 → (Nat → Int32) → (Nat → Int64) → (Nat → Nat → Int32) → (Nat → Nat → Int64) → Option (Int32 × (Nat → Int32) × (Nat → Nat → Int32))) (hrs : ∀ (z0 : Int32) (I : Nat → Int32) (J : Nat → Int64) (A : Nat → Nat → Int32) (B : Nat → Nat → Int64) (r : Int32) (I2 : Nat → Int32) (A2 : Nat → Nat → Int32), rs z0 I J A B = some (r, I2, A2) → McC l yX3_readSum cX3_readSum 5 (some .boolean) ha [.ref (q 4), .int z0] D cy P0 q z tl (xx.1, xx.2.1, q 6) I J A B (some (.int r)) (xx.1, xx.2.1, q 6) I2 J A2 B) (hrt : ∀ (z0 : Int32) (I : Nat → Int32) (J : Nat → Int64) (A : Nat → Nat → Int32) (B : Nat → Nat → Int64) (r : Int32) (I2 : Nat → Int32) (A2 : Nat → Nat → Int32), rt z0 I J A B = some (r, I2, A2) → McC l yX3_readTest cX3_readTest 5 (some .boolean) hd [.ref (q 4), .int z0] D cy P0 q z tl (xx.1, xx.2.1, q 6) I J A B (some (.int r)) (xx.1, xx.2.1, q 6) I2 J A2 B) (x1 : Int32) (I : Nat → Int32) (J : Nat → Int64) (A : Nat → Nat → Int32) (B : Nat → Nat → Int64) (r : Int32) (I2 : Nat → Int32) (A2 : Nat → Nat → Int32) (hs : sX3_readPart_F rs rt x1 I J A B = some (r, I2, A2)) : McC l yX3_readPart cX3_readPart 3 (some .boolean) (hd + 2) [.ref (q 4), .int x1] D cy P0 q z tl (xx.1, xx.2.1, q 6) I J A B (some (.int r)) (xx.1, xx.2.1, q 6) I2 J A2 B := by
  refine C_start rfl (Nat.le_of_ble_eq_true rfl) ?_
  intro p e s m args below meth c H locs C hI ls hl
  have hl : lv_has ls 3 [(0, .ref (q 4)), (1, .int x1)] := hl
  rw [sX3_readPart_F] at hs
  refine lv_aload_n C.1 C.2.1 dX3_readPart_0 rfl (lv_at hl 0 rfl) ?_
  refine cg_X3_84 C hI dX3_readPart_1 ?_
  refine lv_bipush (v := 91) C.1 C.2.1 dX3_readPart_4 (by decide) ?_
  refine lv_icmp_ne (tgt := 17) C.1 C.2.1 dX3_readPart_6 (by decide) (fun cn => ?_) (fun cn => ?_)
  · have hs := if_f cn hs
    refine lv_aload_n C.1 C.2.1 dX3_readPart_17 rfl (lv_at hl 0 rfl) ?_
    refine cg_X3_84 C hI dX3_readPart_18 ?_
    refine lv_bipush (v := -2) C.1 C.2.1 dX3_readPart_21 (by decide) ?_
    obtain ⟨k_51, ek_51, hs⟩ := gv_ex hs
    have KJ_51 : ∀ (y0_j51 : Int32) (I : Nat → Int32) (A : Nat → Nat → Int32) (H : Heap) (locs : List Loc) (ls : Array Slot), k_51 y0_j51 I A = some (r, I2, A2) → CI D cy s P0 s.heap H locs q z tl (xx.1, xx.2.1, q 6) I J A B → lv_has ls 3 [(0, .ref (q 4))] → W p l e (rmL (hd + 2)) s m args below meth c H locs 0 0 (MQ below (cQ D cy P0 q tl (some (.int r)) (xx.1, xx.2.1, q 6) I2 J A2 B) args s 0 0 P0) (F0 m 51 ls [.int y0_j51]) := by
      intro y0_j51 I A H locs ls hs hI hl
      rw [ek_51] at hs
      refine lv_istore_n (lv' := [(2, .int y0_j51), (0, .ref (q 4))]) C.1 C.2.1 dX3_readPart_51 rfl hl (by decide) rfl (fun ls hl => ?_)
      refine lv_iload_n C.1 C.2.1 dX3_readPart_52 rfl (lv_at hl 0 rfl) ?_
      refine lv_if_eq (tgt := 67) C.1 C.2.1 dX3_readPart_53 (by decide) (fun cn => ?_) (fun cn => ?_)
      · have hs := if_t cn hs
        refine lv_iconst (v := 0) C.1 C.2.1 dX3_readPart_67 (by decide) ?_
        obtain ⟨rfl, rfl, rfl⟩ := so3 hs
        exact C_zret C hI (by decide) dX3_readPart_68
      · have hs := if_f cn hs
        refine lv_aload_n C.1 C.2.1 dX3_readPart_56 rfl (lv_at hl 1 rfl) ?_
        obtain ⟨⟨r_57, I, A⟩, hc, hs⟩ := bd_e hs
        refine C_call C hI (kX3_readLeaf l D cy P0 q z tl xx _ _ _ _ _ _ _ hc) (rv_X3 hI) ml_X3_124 im_X3_readLeaf se_X3_readLeaf ini_X3 co_X3_readLeaf hyX3_readLeaf rfl ⟨by omega, by decide⟩ hl.1 rfl (Nat.le_of_ble_eq_true rfl) dX3_readPart_57 (fun H locs hI => ?_)
        refine lv_if_eq (tgt := 67) C.1 C.2.1 dX3_readPart_60 (by decide) (fun cn => ?_) (fun cn => ?_)
        · have hs := if_t cn hs
          refine lv_iconst (v := 0) C.1 C.2.1 dX3_readPart_67 (by decide) ?_
          obtain ⟨rfl, rfl, rfl⟩ := so3 hs
          exact C_zret C hI (by decide) dX3_readPart_68
        · have hs := if_f cn hs
          refine lv_iconst (v := 1) C.1 C.2.1 dX3_readPart_63 (by decide) ?_
          refine lv_goto (tgt := 68) C.1 C.2.1 dX3_readPart_64 (by decide) ?_
          obtain ⟨rfl, rfl, rfl⟩ := so3 hs
          exact C_zret C hI (by decide) dX3_readPart_68
    obtain ⟨k_46, ek_46, hs⟩ := gv_ex hs
    have KJ_46 : ∀ (I : Nat → Int32) (A : Nat → Nat → Int32) (H : Heap) (locs : List Loc) (ls : Array Slot), k_46 I A = some (r, I2, A2) → CI D cy s P0 s.heap H locs q z tl (xx.1, xx.2.1, q 6) I J A B → lv_has ls 3 [(0, .ref (q 4))] → W p l e (rmL (hd + 2)) s m args below meth c H locs 0 0 (MQ below (cQ D cy P0 q tl (some (.int r)) (xx.1, xx.2.1, q 6) I2 J A2 B) args s 0 0 P0) (F0 m 46 ls []) := by
      intro I A H locs ls hs hI hl
      rw [ek_46] at hs
      refine lv_iconst (v := 1) C.1 C.2.1 dX3_readPart_46 (by decide) ?_
      refine lv_goto (tgt := 51) C.1 C.2.1 dX3_readPart_47 (by decide) ?_
      exact KJ_51 _ _ _ _ _ _ hs hI (lv_sub hl [0] rfl)
    refine lv_icmp_eq (tgt := 46) C.1 C.2.1 dX3_readPart_23 (by decide) (fun cn => ?_) (fun cn => ?_)
    · have hs := if_t cn hs
      exact KJ_46 _ _ _ _ _ hs hI (lv_sub hl [0] rfl)
    · have hs := if_f cn hs
      refine lv_aload_n C.1 C.2.1 dX3_readPart_26 rfl (lv_at hl 0 rfl) ?_
      refine cg_X3_84 C hI dX3_readPart_27 ?_
      refine lv_sipush (v := 263) C.1 C.2.1 dX3_readPart_30 (by decide) ?_
      obtain ⟨k_50, ek_50, hs⟩ := gv_ex hs
      have KJ_50 : ∀ (I : Nat → Int32) (A : Nat → Nat → Int32) (H : Heap) (locs : List Loc) (ls : Array Slot), k_50 I A = some (r, I2, A2) → CI D cy s P0 s.heap H locs q z tl (xx.1, xx.2.1, q 6) I J A B → lv_has ls 3 [(0, .ref (q 4))] → W p l e (rmL (hd + 2)) s m args below meth c H locs 0 0 (MQ below (cQ D cy P0 q tl (some (.int r)) (xx.1, xx.2.1, q 6) I2 J A2 B) args s 0 0 P0) (F0 m 50 ls []) := by
        intro I A H locs ls hs hI hl
        rw [ek_50] at hs
        refine lv_iconst (v := 0) C.1 C.2.1 dX3_readPart_50 (by decide) ?_
        exact KJ_51 _ _ _ _ _ _ hs hI (lv_sub hl [0] rfl)
      refine lv_icmp_lt (tgt := 50) C.1 C.2.1 dX3_readPart_33 (by decide) (fun cn => ?_) (fun cn => ?_)
      · have hs := if_t cn hs
        exact KJ_50 _ _ _ _ _ hs hI (lv_sub hl [0] rfl)
      · have hs := if_f cn hs
        refine lv_aload_n C.1 C.2.1 dX3_readPart_36 rfl (lv_at hl 0 rfl) ?_
        refine cg_X3_84 C hI dX3_readPart_37 ?_
        refine lv_sipush (v := 273) C.1 C.2.1 dX3_readPart_40 (by decide) ?_
        refine lv_icmp_ge (tgt := 50) C.1 C.2.1 dX3_readPart_43 (by decide) (fun cn => ?_) (fun cn => ?_)
        · have hs := if_t cn hs
          exact KJ_50 _ _ _ _ _ hs hI (lv_sub hl [0] rfl)
        · have hs := if_f cn hs
          exact KJ_46 _ _ _ _ _ hs hI (lv_sub hl [0] rfl)
  · have hs := if_t cn hs
    refine lv_aload_n C.1 C.2.1 dX3_readPart_9 rfl (lv_at hl 0 rfl) ?_
    refine lv_iload_n C.1 C.2.1 dX3_readPart_10 rfl (lv_at hl 1 rfl) ?_
    refine lv_bipush (v := 93) C.1 C.2.1 dX3_readPart_11 (by decide) ?_
    obtain ⟨⟨r_13, I, A⟩, hc, hs⟩ := bd_e hs
    refine C_call C hI (kX3_readBracketed_F l D cy P0 q z tl xx ha hd hle hh rs rt hrs hrt _ _ _ _ _ _ _ _ _ hc) (rv_X3 hI) ml_X3_120 im_X3_readBracketed se_X3_readBracketed ini_X3 co_X3_readBracketed hyX3_readBracketed rfl ⟨by omega, by decide⟩ hl.1 rfl (Nat.le_of_ble_eq_true rfl) dX3_readPart_13 (fun H locs hI => ?_)
    obtain ⟨hb, hs⟩ := ck_e hs
    obtain ⟨rfl, rfl, rfl⟩ := so3 hs
    exact C_zret C hI hb dX3_readPart_16

def lX3_readTerm_8 (rs : Int32 → (Nat → Int32) → (Nat → Int64) → (Nat → Nat → Int32) → (Nat → Nat → Int64) → Option (Int32 × (Nat → Int32) × (Nat → Nat → Int32))) (rt : Int32 → (Nat → Int32) → (Nat → Int64) → (Nat → Nat → Int32) → (Nat → Nat → Int64) → Option (Int32 × (Nat → Int32) × (Nat → Nat → Int32))) : Nat → Int32 → Int32 → Int32 → (Nat → Int32) → (Nat → Int64) → (Nat → Nat → Int32) → (Nat → Nat → Int64) → Option (Int32 × (Nat → Int32) × (Nat → Nat → Int32))
  | 0, _, _, _, _, _, _, _ => none
  | n + 1, x1, x2, x3, I, J, A, B =>
    if (400 : Int32) ≤ x3 then
    (some (x2, I, A))
    else
    if x2 = 0 then
    (some (x2, I, A))
    else
    gv (fun (I : Nat → Int32) (A : Nat → Nat → Int32) =>
    gv (I 84) fun x4_41 =>
    (sX3_advance  I J A B).bind fun I =>
    (sX3_readPart_F rs rt x1 I J A B).bind fun (r_49, I, A) =>
    (sX3_write x4_41 (0 : Int32) I J A B).bind fun (I, A) =>
    gv (x3 + 1) fun x3_60 =>
    lX3_readTerm_8 rs rt n x1 r_49 x3_60 I J A B) fun k_37 =>
    if (I 84) = (42 : Int32) then
    (k_37 I A)
    else
    if (I 84) = (47 : Int32) then
    (k_37 I A)
    else
    some (x2, I, A)
def sX3_readTerm_F (rs : Int32 → (Nat → Int32) → (Nat → Int64) → (Nat → Nat → Int32) → (Nat → Nat → Int64) → Option (Int32 × (Nat → Int32) × (Nat → Nat → Int32))) (rt : Int32 → (Nat → Int32) → (Nat → Int64) → (Nat → Nat → Int32) → (Nat → Nat → Int64) → Option (Int32 × (Nat → Int32) × (Nat → Nat → Int32))) (x1 : Int32) (I : Nat → Int32) (J : Nat → Int64) (A : Nat → Nat → Int32) (B : Nat → Nat → Int64) : Option ((Int32) × (Nat → Int32) × (Nat → Nat → Int32)) :=
(sX3_readPart_F rs rt x1 I J A B).bind fun (r_2, I, A) =>
(lX3_readTerm_8 rs rt FU x1 r_2 (0 : Int32) I J A B).bind fun (x2_8, I, A) =>
ck (isB x2_8) <|
some (x2_8, I, A)
set_option maxRecDepth 100000 in
set_option maxHeartbeats 8000000 in
theorem kX3_readTerm_F (l : Launch) (D : va_G) (cy : Nat → ClassId) (P0 : Nat → Prop) (q z : Nat → Nat) (tl : va_W) (xx : (Nat → Option Nat) × (Nat → Option Nat) × Nat) (ha hd : Nat) (hle : ha ≤ hd) (hh : 8 ≤ hd) (rs : Int32 → (Nat → Int32) → (Nat → Int64) → (Nat → Nat → Int32) → (Nat → Nat → Int64) → Option (Int32 × (Nat → Int32) × (Nat → Nat → Int32))) (rt : Int32 → (Nat → Int32) → (Nat → Int64) → (Nat → Nat → Int32) → (Nat → Nat → Int64) → Option (Int32 × (Nat → Int32) × (Nat → Nat → Int32))) (hrs : ∀ (z0 : Int32) (I : Nat → Int32) (J : Nat → Int64) (A : Nat → Nat → Int32) (B : Nat → Nat → Int64) (r : Int32) (I2 : Nat → Int32) (A2 : Nat → Nat → Int32), rs z0 I J A B = some (r, I2, A2) → McC l yX3_readSum cX3_readSum 5 (some .boolean) ha [.ref (q 4), .int z0] D cy P0 q z tl (xx.1, xx.2.1, q 6) I J A B (some (.int r)) (xx.1, xx.2.1, q 6) I2 J A2 B) (hrt : ∀ (z0 : Int32) (I : Nat → Int32) (J : Nat → Int64) (A : Nat → Nat → Int32) (B : Nat → Nat → Int64) (r : Int32) (I2 : Nat → Int32) (A2 : Nat → Nat → Int32), rt z0 I J A B = some (r, I2, A2) → McC l yX3_readTest cX3_readTest 5 (some .boolean) hd [.ref (q 4), .int z0] D cy P0 q z tl (xx.1, xx.2.1, q 6) I J A B (some (.int r)) (xx.1, xx.2.1, q 6) I2 J A2 B) (x1 : Int32) (I : Nat → Int32) (J : Nat → Int64) (A : Nat → Nat → Int32) (B : Nat → Nat → Int64) (r : Int32) (I2 : Nat → Int32) (A2 : Nat → Nat → Int32) (hs : sX3_readTerm_F rs rt x1 I J A B = some (r, I2, A2)) : McC l yX3_readTerm cX3_readTerm 5 (some .boolean) (hd + 3) [.ref (q 4), .int x1] D cy P0 q z tl (xx.1, xx.2.1, q 6) I J A B (some (.int r)) (xx.1, xx.2.1, q 6) I2 J A2 B := by
  refine C_start rfl (Nat.le_of_ble_eq_true rfl) ?_
  intro p e s m args below meth c H locs C hI ls hl
  have hl : lv_has ls 5 [(0, .ref (q 4)), (1, .int x1)] := hl
  rw [sX3_readTerm_F] at hs
  refine lv_aload_n C.1 C.2.1 dX3_readTerm_0 rfl (lv_at hl 0 rfl) ?_
  refine lv_iload_n C.1 C.2.1 dX3_readTerm_1 rfl (lv_at hl 1 rfl) ?_
  obtain ⟨⟨r_2, I, A⟩, hc, hs⟩ := bd_e hs
  refine C_call C hI (kX3_readPart_F l D cy P0 q z tl xx ha hd hle hh rs rt hrs hrt _ _ _ _ _ _ _ _ hc) (rv_X3 hI) ml_X3_133 im_X3_readPart se_X3_readPart ini_X3 co_X3_readPart hyX3_readPart rfl ⟨by omega, by decide⟩ hl.1 rfl (Nat.le_of_ble_eq_true rfl) dX3_readTerm_2 (fun H locs hI => ?_)
  refine lv_istore_n (lv' := [(2, .int r_2), (0, .ref (q 4)), (1, .int x1)]) C.1 C.2.1 dX3_readTerm_5 rfl hl (by decide) rfl (fun ls hl => ?_)
  refine lv_iconst (v := 0) C.1 C.2.1 dX3_readTerm_6 (by decide) ?_
  refine lv_istore_n (lv' := [(3, .int (0 : Int32)), (2, .int r_2), (0, .ref (q 4)), (1, .int x1)]) C.1 C.2.1 dX3_readTerm_7 rfl hl (by decide) rfl (fun ls hl => ?_)
  have KL_8 : ∀ (n : Nat) (x1 : Int32) (x2 : Int32) (x3 : Int32) (I : Nat → Int32) (J : Nat → Int64) (A : Nat → Nat → Int32) (B : Nat → Nat → Int64) (o : Int32 × (Nat → Int32) × (Nat → Nat → Int32)) (Q : State → Prop) (H : Heap) (locs : List Loc) (ls : Array Slot), lX3_readTerm_8 rs rt n x1 x2 x3 I J A B = some o → CI D cy s P0 s.heap H locs q z tl (xx.1, xx.2.1, q 6) I J A B → lv_has ls 5 [(0, .ref (q 4)), (1, .int x1), (2, .int x2), (3, .int x3)] → (∀ (o2_0 : Int32) (I_0 : Nat → Int32) (A_0 : Nat → Nat → Int32) (H : Heap) (locs : List Loc) (ls : Array Slot), o = (o2_0, I_0, A_0) → CI D cy s P0 s.heap H locs q z tl (xx.1, xx.2.1, q 6) I_0 J A_0 B → lv_has ls 5 [(2, .int o2_0)] → W p l e (rmL (hd + 3)) s m args below meth c H locs 0 0 Q (F0 m 66 ls [])) → W p l e (rmL (hd + 3)) s m args below meth c H locs 0 0 Q (F0 m 8 ls []) := by
    intro n; induction n with
    | zero => intro x1 x2 x3 I J A B o Q H locs ls hs; rw [lX3_readTerm_8] at hs; cases hs
    | succ n ih =>
      intro x1 x2 x3 I J A B o Q H locs ls hs hI hl kk0
      rw [lX3_readTerm_8] at hs
      refine lv_iload_n C.1 C.2.1 dX3_readTerm_8 rfl (lv_at hl 3 rfl) ?_
      refine lv_sipush (v := 400) C.1 C.2.1 dX3_readTerm_9 (by decide) ?_
      refine lv_icmp_ge (tgt := 66) C.1 C.2.1 dX3_readTerm_12 (by decide) (fun cn => ?_) (fun cn => ?_)
      · have hs := if_t cn hs
        have eo := (Option.some.inj hs).symm
        exact kk0 _ _ _ _ _ _ eo hI (lv_sub hl [2] rfl)
      · have hs := if_f cn hs
        refine lv_iload_n C.1 C.2.1 dX3_readTerm_15 rfl (lv_at hl 2 rfl) ?_
        refine lv_if_eq (tgt := 66) C.1 C.2.1 dX3_readTerm_16 (by decide) (fun cn => ?_) (fun cn => ?_)
        · have hs := if_t cn hs
          have eo := (Option.some.inj hs).symm
          exact kk0 _ _ _ _ _ _ eo hI (lv_sub hl [2] rfl)
        · have hs := if_f cn hs
          refine lv_aload_n C.1 C.2.1 dX3_readTerm_19 rfl (lv_at hl 0 rfl) ?_
          refine cg_X3_84 C hI dX3_readTerm_20 ?_
          refine lv_bipush (v := 42) C.1 C.2.1 dX3_readTerm_23 (by decide) ?_
          obtain ⟨k_37, ek_37, hs⟩ := gv_ex hs
          have KJ_37 : ∀ (I : Nat → Int32) (A : Nat → Nat → Int32) (H : Heap) (locs : List Loc) (ls : Array Slot), k_37 I A = some o → CI D cy s P0 s.heap H locs q z tl (xx.1, xx.2.1, q 6) I J A B → lv_has ls 5 [(0, .ref (q 4)), (1, .int x1), (3, .int x3)] → W p l e (rmL (hd + 3)) s m args below meth c H locs 0 0 Q (F0 m 37 ls []) := by
            intro I A H locs ls hs hI hl
            rw [ek_37] at hs
            refine lv_aload_n C.1 C.2.1 dX3_readTerm_37 rfl (lv_at hl 0 rfl) ?_
            refine cg_X3_84 C hI dX3_readTerm_38 ?_
            refine lv_topi (fun x4_41 ex4_41 => ?_)
            have hs := gv_at ex4_41 hs
            refine lv_istore (lv' := [(4, .int x4_41), (0, .ref (q 4)), (1, .int x1), (3, .int x3)]) C.1 C.2.1 dX3_readTerm_41 hl (by decide) rfl (fun ls hl => ?_)
            refine lv_aload_n C.1 C.2.1 dX3_readTerm_43 rfl (lv_at hl 1 rfl) ?_
            obtain ⟨I, hc, hs⟩ := bd_e hs
            refine C_call C hI (kX3_advance l D cy P0 q z tl xx _ _ _ _ _ hc) (rv_X3 hI) ml_X3_54 im_X3_advance se_X3_advance ini_X3 co_X3_advance hyX3_advance rfl ⟨by omega, by decide⟩ hl.1 rfl (Nat.le_of_ble_eq_true rfl) dX3_readTerm_44 (fun H locs hI => ?_)
            refine lv_aload_n C.1 C.2.1 dX3_readTerm_47 rfl (lv_at hl 1 rfl) ?_
            refine lv_iload_n C.1 C.2.1 dX3_readTerm_48 rfl (lv_at hl 2 rfl) ?_
            obtain ⟨⟨r_49, I, A⟩, hc, hs⟩ := bd_e hs
            refine C_call C hI (kX3_readPart_F l D cy P0 q z tl xx ha hd hle hh rs rt hrs hrt _ _ _ _ _ _ _ _ hc) (rv_X3 hI) ml_X3_133 im_X3_readPart se_X3_readPart ini_X3 co_X3_readPart hyX3_readPart rfl ⟨by omega, by decide⟩ hl.1 rfl (Nat.le_of_ble_eq_true rfl) dX3_readTerm_49 (fun H locs hI => ?_)
            refine lv_istore_n (lv' := [(2, .int r_49), (4, .int x4_41), (0, .ref (q 4)), (1, .int x1), (3, .int x3)]) C.1 C.2.1 dX3_readTerm_52 rfl hl (by decide) rfl (fun ls hl => ?_)
            refine lv_aload_n C.1 C.2.1 dX3_readTerm_53 rfl (lv_at hl 2 rfl) ?_
            refine lv_iload C.1 C.2.1 dX3_readTerm_54 (lv_at hl 1 rfl) ?_
            refine lv_iconst (v := 0) C.1 C.2.1 dX3_readTerm_56 (by decide) ?_
            obtain ⟨⟨I, A⟩, hc, hs⟩ := bd_e hs
            refine C_call C hI (kX3_write l D cy P0 q z tl xx _ _ _ _ _ _ _ _ hc) (rv_X3 hI) ml_X3_109 im_X3_write se_X3_write ini_X3 co_X3_write hyX3_write rfl ⟨by omega, by decide⟩ hl.1 rfl (Nat.le_of_ble_eq_true rfl) dX3_readTerm_57 (fun H locs hI => ?_)
            obtain ⟨x3_60, ex3_60⟩ : ∃ y : Int32, y = (x3 + 1) := ⟨_, rfl⟩
            have hs := gv_at ex3_60 hs
            refine lv_iinc (v := x3_60) (lv' := [(3, .int x3_60), (2, .int r_49), (4, .int x4_41), (0, .ref (q 4)), (1, .int x1)]) C.1 C.2.1 dX3_readTerm_60 hl (k := 4) rfl (by rw [ex3_60]; rfl) (by decide) rfl (fun ls hl => ?_)
            refine lv_goto (tgt := 8) C.1 C.2.1 dX3_readTerm_63 (by decide) ?_
            exact ih _ _ _ _ _ _ _ _ _ _ _ _ hs hI (lv_sub hl [3, 4, 1, 0] rfl) kk0
          refine lv_icmp_eq (tgt := 37) C.1 C.2.1 dX3_readTerm_25 (by decide) (fun cn => ?_) (fun cn => ?_)
          · have hs := if_t cn hs
            exact KJ_37 _ _ _ _ _ hs hI (lv_sub hl [0, 1, 3] rfl)
          · have hs := if_f cn hs
            refine lv_aload_n C.1 C.2.1 dX3_readTerm_28 rfl (lv_at hl 0 rfl) ?_
            refine cg_X3_84 C hI dX3_readTerm_29 ?_
            refine lv_bipush (v := 47) C.1 C.2.1 dX3_readTerm_32 (by decide) ?_
            refine lv_icmp_ne (tgt := 66) C.1 C.2.1 dX3_readTerm_34 (by decide) (fun cn => ?_) (fun cn => ?_)
            · have hs := if_f cn hs
              have eo := (Option.some.inj hs).symm
              exact kk0 _ _ _ _ _ _ eo hI (lv_sub hl [2] rfl)
            · have hs := if_t cn hs
              exact KJ_37 _ _ _ _ _ hs hI (lv_sub hl [0, 1, 3] rfl)
  obtain ⟨⟨x2_8, I_L, A_L⟩, hL, hs⟩ := bd_e hs
  refine KL_8 FU _ _ _ _ _ _ _ _ _ _ _ _ hL hI (lv_sub hl [2, 3, 1, 0] rfl) (fun z0 z1 z2 H locs ls eo hI hl => ?_)
  obtain ⟨rfl, rfl, rfl⟩ := pr3 eo
  refine lv_iload_n C.1 C.2.1 dX3_readTerm_66 rfl (lv_at hl 0 rfl) ?_
  obtain ⟨hb, hs⟩ := ck_e hs
  obtain ⟨rfl, rfl, rfl⟩ := so3 hs
  exact C_zret C hI hb dX3_readTerm_67

def lX3_readSum_8 (rs : Int32 → (Nat → Int32) → (Nat → Int64) → (Nat → Nat → Int32) → (Nat → Nat → Int64) → Option (Int32 × (Nat → Int32) × (Nat → Nat → Int32))) (rt : Int32 → (Nat → Int32) → (Nat → Int64) → (Nat → Nat → Int32) → (Nat → Nat → Int64) → Option (Int32 × (Nat → Int32) × (Nat → Nat → Int32))) : Nat → Int32 → Int32 → Int32 → (Nat → Int32) → (Nat → Int64) → (Nat → Nat → Int32) → (Nat → Nat → Int64) → Option (Int32 × (Nat → Int32) × (Nat → Nat → Int32))
  | 0, _, _, _, _, _, _, _ => none
  | n + 1, x1, x2, x3, I, J, A, B =>
    if (400 : Int32) ≤ x3 then
    (some (x2, I, A))
    else
    if x2 = 0 then
    (some (x2, I, A))
    else
    gv (fun (I : Nat → Int32) (A : Nat → Nat → Int32) =>
    gv (I 84) fun x4_41 =>
    (sX3_advance  I J A B).bind fun I =>
    (sX3_readTerm_F rs rt x1 I J A B).bind fun (r_49, I, A) =>
    (sX3_write x4_41 (0 : Int32) I J A B).bind fun (I, A) =>
    gv (x3 + 1) fun x3_60 =>
    lX3_readSum_8 rs rt n x1 r_49 x3_60 I J A B) fun k_37 =>
    if (I 84) = (43 : Int32) then
    (k_37 I A)
    else
    if (I 84) = (45 : Int32) then
    (k_37 I A)
    else
    some (x2, I, A)
def sX3_readSum_F (rs : Int32 → (Nat → Int32) → (Nat → Int64) → (Nat → Nat → Int32) → (Nat → Nat → Int64) → Option (Int32 × (Nat → Int32) × (Nat → Nat → Int32))) (rt : Int32 → (Nat → Int32) → (Nat → Int64) → (Nat → Nat → Int32) → (Nat → Nat → Int64) → Option (Int32 × (Nat → Int32) × (Nat → Nat → Int32))) (x1 : Int32) (I : Nat → Int32) (J : Nat → Int64) (A : Nat → Nat → Int32) (B : Nat → Nat → Int64) : Option ((Int32) × (Nat → Int32) × (Nat → Nat → Int32)) :=
(sX3_readTerm_F rs rt x1 I J A B).bind fun (r_2, I, A) =>
(lX3_readSum_8 rs rt FU x1 r_2 (0 : Int32) I J A B).bind fun (x2_8, I, A) =>
ck (isB x2_8) <|
some (x2_8, I, A)
set_option maxRecDepth 100000 in
set_option maxHeartbeats 8000000 in
theorem kX3_readSum_F (l : Launch) (D : va_G) (cy : Nat → ClassId) (P0 : Nat → Prop) (q z : Nat → Nat) (tl : va_W) (xx : (Nat → Option Nat) × (Nat → Option Nat) × Nat) (ha hd : Nat) (hle : ha ≤ hd) (hh : 8 ≤ hd) (rs : Int32 → (Nat → Int32) → (Nat → Int64) → (Nat → Nat → Int32) → (Nat → Nat → Int64) → Option (Int32 × (Nat → Int32) × (Nat → Nat → Int32))) (rt : Int32 → (Nat → Int32) → (Nat → Int64) → (Nat → Nat → Int32) → (Nat → Nat → Int64) → Option (Int32 × (Nat → Int32) × (Nat → Nat → Int32))) (hrs : ∀ (z0 : Int32) (I : Nat → Int32) (J : Nat → Int64) (A : Nat → Nat → Int32) (B : Nat → Nat → Int64) (r : Int32) (I2 : Nat → Int32) (A2 : Nat → Nat → Int32), rs z0 I J A B = some (r, I2, A2) → McC l yX3_readSum cX3_readSum 5 (some .boolean) ha [.ref (q 4), .int z0] D cy P0 q z tl (xx.1, xx.2.1, q 6) I J A B (some (.int r)) (xx.1, xx.2.1, q 6) I2 J A2 B) (hrt : ∀ (z0 : Int32) (I : Nat → Int32) (J : Nat → Int64) (A : Nat → Nat → Int32) (B : Nat → Nat → Int64) (r : Int32) (I2 : Nat → Int32) (A2 : Nat → Nat → Int32), rt z0 I J A B = some (r, I2, A2) → McC l yX3_readTest cX3_readTest 5 (some .boolean) hd [.ref (q 4), .int z0] D cy P0 q z tl (xx.1, xx.2.1, q 6) I J A B (some (.int r)) (xx.1, xx.2.1, q 6) I2 J A2 B) (x1 : Int32) (I : Nat → Int32) (J : Nat → Int64) (A : Nat → Nat → Int32) (B : Nat → Nat → Int64) (r : Int32) (I2 : Nat → Int32) (A2 : Nat → Nat → Int32) (hs : sX3_readSum_F rs rt x1 I J A B = some (r, I2, A2)) : McC l yX3_readSum cX3_readSum 5 (some .boolean) (hd + 4) [.ref (q 4), .int x1] D cy P0 q z tl (xx.1, xx.2.1, q 6) I J A B (some (.int r)) (xx.1, xx.2.1, q 6) I2 J A2 B := by
  refine C_start rfl (Nat.le_of_ble_eq_true rfl) ?_
  intro p e s m args below meth c H locs C hI ls hl
  have hl : lv_has ls 5 [(0, .ref (q 4)), (1, .int x1)] := hl
  rw [sX3_readSum_F] at hs
  refine lv_aload_n C.1 C.2.1 dX3_readSum_0 rfl (lv_at hl 0 rfl) ?_
  refine lv_iload_n C.1 C.2.1 dX3_readSum_1 rfl (lv_at hl 1 rfl) ?_
  obtain ⟨⟨r_2, I, A⟩, hc, hs⟩ := bd_e hs
  refine C_call C hI (kX3_readTerm_F l D cy P0 q z tl xx ha hd hle hh rs rt hrs hrt _ _ _ _ _ _ _ _ hc) (rv_X3 hI) ml_X3_130 im_X3_readTerm se_X3_readTerm ini_X3 co_X3_readTerm hyX3_readTerm rfl ⟨by omega, by decide⟩ hl.1 rfl (Nat.le_of_ble_eq_true rfl) dX3_readSum_2 (fun H locs hI => ?_)
  refine lv_istore_n (lv' := [(2, .int r_2), (0, .ref (q 4)), (1, .int x1)]) C.1 C.2.1 dX3_readSum_5 rfl hl (by decide) rfl (fun ls hl => ?_)
  refine lv_iconst (v := 0) C.1 C.2.1 dX3_readSum_6 (by decide) ?_
  refine lv_istore_n (lv' := [(3, .int (0 : Int32)), (2, .int r_2), (0, .ref (q 4)), (1, .int x1)]) C.1 C.2.1 dX3_readSum_7 rfl hl (by decide) rfl (fun ls hl => ?_)
  have KL_8 : ∀ (n : Nat) (x1 : Int32) (x2 : Int32) (x3 : Int32) (I : Nat → Int32) (J : Nat → Int64) (A : Nat → Nat → Int32) (B : Nat → Nat → Int64) (o : Int32 × (Nat → Int32) × (Nat → Nat → Int32)) (Q : State → Prop) (H : Heap) (locs : List Loc) (ls : Array Slot), lX3_readSum_8 rs rt n x1 x2 x3 I J A B = some o → CI D cy s P0 s.heap H locs q z tl (xx.1, xx.2.1, q 6) I J A B → lv_has ls 5 [(0, .ref (q 4)), (1, .int x1), (2, .int x2), (3, .int x3)] → (∀ (o2_0 : Int32) (I_0 : Nat → Int32) (A_0 : Nat → Nat → Int32) (H : Heap) (locs : List Loc) (ls : Array Slot), o = (o2_0, I_0, A_0) → CI D cy s P0 s.heap H locs q z tl (xx.1, xx.2.1, q 6) I_0 J A_0 B → lv_has ls 5 [(2, .int o2_0)] → W p l e (rmL (hd + 4)) s m args below meth c H locs 0 0 Q (F0 m 66 ls [])) → W p l e (rmL (hd + 4)) s m args below meth c H locs 0 0 Q (F0 m 8 ls []) := by
    intro n; induction n with
    | zero => intro x1 x2 x3 I J A B o Q H locs ls hs; rw [lX3_readSum_8] at hs; cases hs
    | succ n ih =>
      intro x1 x2 x3 I J A B o Q H locs ls hs hI hl kk0
      rw [lX3_readSum_8] at hs
      refine lv_iload_n C.1 C.2.1 dX3_readSum_8 rfl (lv_at hl 3 rfl) ?_
      refine lv_sipush (v := 400) C.1 C.2.1 dX3_readSum_9 (by decide) ?_
      refine lv_icmp_ge (tgt := 66) C.1 C.2.1 dX3_readSum_12 (by decide) (fun cn => ?_) (fun cn => ?_)
      · have hs := if_t cn hs
        have eo := (Option.some.inj hs).symm
        exact kk0 _ _ _ _ _ _ eo hI (lv_sub hl [2] rfl)
      · have hs := if_f cn hs
        refine lv_iload_n C.1 C.2.1 dX3_readSum_15 rfl (lv_at hl 2 rfl) ?_
        refine lv_if_eq (tgt := 66) C.1 C.2.1 dX3_readSum_16 (by decide) (fun cn => ?_) (fun cn => ?_)
        · have hs := if_t cn hs
          have eo := (Option.some.inj hs).symm
          exact kk0 _ _ _ _ _ _ eo hI (lv_sub hl [2] rfl)
        · have hs := if_f cn hs
          refine lv_aload_n C.1 C.2.1 dX3_readSum_19 rfl (lv_at hl 0 rfl) ?_
          refine cg_X3_84 C hI dX3_readSum_20 ?_
          refine lv_bipush (v := 43) C.1 C.2.1 dX3_readSum_23 (by decide) ?_
          obtain ⟨k_37, ek_37, hs⟩ := gv_ex hs
          have KJ_37 : ∀ (I : Nat → Int32) (A : Nat → Nat → Int32) (H : Heap) (locs : List Loc) (ls : Array Slot), k_37 I A = some o → CI D cy s P0 s.heap H locs q z tl (xx.1, xx.2.1, q 6) I J A B → lv_has ls 5 [(0, .ref (q 4)), (1, .int x1), (3, .int x3)] → W p l e (rmL (hd + 4)) s m args below meth c H locs 0 0 Q (F0 m 37 ls []) := by
            intro I A H locs ls hs hI hl
            rw [ek_37] at hs
            refine lv_aload_n C.1 C.2.1 dX3_readSum_37 rfl (lv_at hl 0 rfl) ?_
            refine cg_X3_84 C hI dX3_readSum_38 ?_
            refine lv_topi (fun x4_41 ex4_41 => ?_)
            have hs := gv_at ex4_41 hs
            refine lv_istore (lv' := [(4, .int x4_41), (0, .ref (q 4)), (1, .int x1), (3, .int x3)]) C.1 C.2.1 dX3_readSum_41 hl (by decide) rfl (fun ls hl => ?_)
            refine lv_aload_n C.1 C.2.1 dX3_readSum_43 rfl (lv_at hl 1 rfl) ?_
            obtain ⟨I, hc, hs⟩ := bd_e hs
            refine C_call C hI (kX3_advance l D cy P0 q z tl xx _ _ _ _ _ hc) (rv_X3 hI) ml_X3_54 im_X3_advance se_X3_advance ini_X3 co_X3_advance hyX3_advance rfl ⟨by omega, by decide⟩ hl.1 rfl (Nat.le_of_ble_eq_true rfl) dX3_readSum_44 (fun H locs hI => ?_)
            refine lv_aload_n C.1 C.2.1 dX3_readSum_47 rfl (lv_at hl 1 rfl) ?_
            refine lv_iload_n C.1 C.2.1 dX3_readSum_48 rfl (lv_at hl 2 rfl) ?_
            obtain ⟨⟨r_49, I, A⟩, hc, hs⟩ := bd_e hs
            refine C_call C hI (kX3_readTerm_F l D cy P0 q z tl xx ha hd hle hh rs rt hrs hrt _ _ _ _ _ _ _ _ hc) (rv_X3 hI) ml_X3_130 im_X3_readTerm se_X3_readTerm ini_X3 co_X3_readTerm hyX3_readTerm rfl ⟨by omega, by decide⟩ hl.1 rfl (Nat.le_of_ble_eq_true rfl) dX3_readSum_49 (fun H locs hI => ?_)
            refine lv_istore_n (lv' := [(2, .int r_49), (4, .int x4_41), (0, .ref (q 4)), (1, .int x1), (3, .int x3)]) C.1 C.2.1 dX3_readSum_52 rfl hl (by decide) rfl (fun ls hl => ?_)
            refine lv_aload_n C.1 C.2.1 dX3_readSum_53 rfl (lv_at hl 2 rfl) ?_
            refine lv_iload C.1 C.2.1 dX3_readSum_54 (lv_at hl 1 rfl) ?_
            refine lv_iconst (v := 0) C.1 C.2.1 dX3_readSum_56 (by decide) ?_
            obtain ⟨⟨I, A⟩, hc, hs⟩ := bd_e hs
            refine C_call C hI (kX3_write l D cy P0 q z tl xx _ _ _ _ _ _ _ _ hc) (rv_X3 hI) ml_X3_109 im_X3_write se_X3_write ini_X3 co_X3_write hyX3_write rfl ⟨by omega, by decide⟩ hl.1 rfl (Nat.le_of_ble_eq_true rfl) dX3_readSum_57 (fun H locs hI => ?_)
            obtain ⟨x3_60, ex3_60⟩ : ∃ y : Int32, y = (x3 + 1) := ⟨_, rfl⟩
            have hs := gv_at ex3_60 hs
            refine lv_iinc (v := x3_60) (lv' := [(3, .int x3_60), (2, .int r_49), (4, .int x4_41), (0, .ref (q 4)), (1, .int x1)]) C.1 C.2.1 dX3_readSum_60 hl (k := 4) rfl (by rw [ex3_60]; rfl) (by decide) rfl (fun ls hl => ?_)
            refine lv_goto (tgt := 8) C.1 C.2.1 dX3_readSum_63 (by decide) ?_
            exact ih _ _ _ _ _ _ _ _ _ _ _ _ hs hI (lv_sub hl [3, 4, 1, 0] rfl) kk0
          refine lv_icmp_eq (tgt := 37) C.1 C.2.1 dX3_readSum_25 (by decide) (fun cn => ?_) (fun cn => ?_)
          · have hs := if_t cn hs
            exact KJ_37 _ _ _ _ _ hs hI (lv_sub hl [0, 1, 3] rfl)
          · have hs := if_f cn hs
            refine lv_aload_n C.1 C.2.1 dX3_readSum_28 rfl (lv_at hl 0 rfl) ?_
            refine cg_X3_84 C hI dX3_readSum_29 ?_
            refine lv_bipush (v := 45) C.1 C.2.1 dX3_readSum_32 (by decide) ?_
            refine lv_icmp_ne (tgt := 66) C.1 C.2.1 dX3_readSum_34 (by decide) (fun cn => ?_) (fun cn => ?_)
            · have hs := if_f cn hs
              have eo := (Option.some.inj hs).symm
              exact kk0 _ _ _ _ _ _ eo hI (lv_sub hl [2] rfl)
            · have hs := if_t cn hs
              exact KJ_37 _ _ _ _ _ hs hI (lv_sub hl [0, 1, 3] rfl)
  obtain ⟨⟨x2_8, I_L, A_L⟩, hL, hs⟩ := bd_e hs
  refine KL_8 FU _ _ _ _ _ _ _ _ _ _ _ _ hL hI (lv_sub hl [2, 3, 1, 0] rfl) (fun z0 z1 z2 H locs ls eo hI hl => ?_)
  obtain ⟨rfl, rfl, rfl⟩ := pr3 eo
  refine lv_iload_n C.1 C.2.1 dX3_readSum_66 rfl (lv_at hl 0 rfl) ?_
  obtain ⟨hb, hs⟩ := ck_e hs
  obtain ⟨rfl, rfl, rfl⟩ := so3 hs
  exact C_zret C hI hb dX3_readSum_67

def sX3_readComparison_F (rs : Int32 → (Nat → Int32) → (Nat → Int64) → (Nat → Nat → Int32) → (Nat → Nat → Int64) → Option (Int32 × (Nat → Int32) × (Nat → Nat → Int32))) (rt : Int32 → (Nat → Int32) → (Nat → Int64) → (Nat → Nat → Int32) → (Nat → Nat → Int64) → Option (Int32 × (Nat → Int32) × (Nat → Nat → Int32))) (x1 : Int32) (I : Nat → Int32) (J : Nat → Int64) (A : Nat → Nat → Int32) (B : Nat → Nat → Int64) : Option ((Int32) × (Nat → Int32) × (Nat → Nat → Int32)) :=
(sX3_readSum_F rs rt x1 I J A B).bind fun (r_2, I, A) =>
if r_2 = 0 then
(some ((0 : Int32), I, A))
else
gv (I 84) fun x2_14 =>
gv (fun (I : Nat → Int32) (A : Nat → Nat → Int32) =>
(sX3_advance  I J A B).bind fun I =>
(sX3_readSum_F rs rt x1 I J A B).bind fun (r_41, I, A) =>
(sX3_write x2_14 (0 : Int32) I J A B).bind fun (I, A) =>
ck (isB r_41) <|
some (r_41, I, A)) fun k_35 =>
if x2_14 = (60 : Int32) then
(k_35 I A)
else
if x2_14 = (62 : Int32) then
(k_35 I A)
else
if x2_14 = (61 : Int32) then
(k_35 I A)
else
some ((0 : Int32), I, A)
set_option maxRecDepth 100000 in
set_option maxHeartbeats 8000000 in
theorem kX3_readComparison_F (l : Launch) (D : va_G) (cy : Nat → ClassId) (P0 : Nat → Prop) (q z : Nat → Nat) (tl : va_W) (xx : (Nat → Option Nat) × (Nat → Option Nat) × Nat) (ha hd : Nat) (hle : ha ≤ hd) (hh : 8 ≤ hd) (rs : Int32 → (Nat → Int32) → (Nat → Int64) → (Nat → Nat → Int32) → (Nat → Nat → Int64) → Option (Int32 × (Nat → Int32) × (Nat → Nat → Int32))) (rt : Int32 → (Nat → Int32) → (Nat → Int64) → (Nat → Nat → Int32) → (Nat → Nat → Int64) → Option (Int32 × (Nat → Int32) × (Nat → Nat → Int32))) (hrs : ∀ (z0 : Int32) (I : Nat → Int32) (J : Nat → Int64) (A : Nat → Nat → Int32) (B : Nat → Nat → Int64) (r : Int32) (I2 : Nat → Int32) (A2 : Nat → Nat → Int32), rs z0 I J A B = some (r, I2, A2) → McC l yX3_readSum cX3_readSum 5 (some .boolean) ha [.ref (q 4), .int z0] D cy P0 q z tl (xx.1, xx.2.1, q 6) I J A B (some (.int r)) (xx.1, xx.2.1, q 6) I2 J A2 B) (hrt : ∀ (z0 : Int32) (I : Nat → Int32) (J : Nat → Int64) (A : Nat → Nat → Int32) (B : Nat → Nat → Int64) (r : Int32) (I2 : Nat → Int32) (A2 : Nat → Nat → Int32), rt z0 I J A B = some (r, I2, A2) → McC l yX3_readTest cX3_readTest 5 (some .boolean) hd [.ref (q 4), .int z0] D cy P0 q z tl (xx.1, xx.2.1, q 6) I J A B (some (.int r)) (xx.1, xx.2.1, q 6) I2 J A2 B) (x1 : Int32) (I : Nat → Int32) (J : Nat → Int64) (A : Nat → Nat → Int32) (B : Nat → Nat → Int64) (r : Int32) (I2 : Nat → Int32) (A2 : Nat → Nat → Int32) (hs : sX3_readComparison_F rs rt x1 I J A B = some (r, I2, A2)) : McC l yX3_readComparison cX3_readComparison 4 (some .boolean) (hd + 5) [.ref (q 4), .int x1] D cy P0 q z tl (xx.1, xx.2.1, q 6) I J A B (some (.int r)) (xx.1, xx.2.1, q 6) I2 J A2 B := by
  refine C_start rfl (Nat.le_of_ble_eq_true rfl) ?_
  intro p e s m args below meth c H locs C hI ls hl
  have hl : lv_has ls 4 [(0, .ref (q 4)), (1, .int x1)] := hl
  rw [sX3_readComparison_F] at hs
  refine lv_aload_n C.1 C.2.1 dX3_readComparison_0 rfl (lv_at hl 0 rfl) ?_
  refine lv_iload_n C.1 C.2.1 dX3_readComparison_1 rfl (lv_at hl 1 rfl) ?_
  obtain ⟨⟨r_2, I, A⟩, hc, hs⟩ := bd_e hs
  refine C_call C hI (kX3_readSum_F l D cy P0 q z tl xx ha hd hle hh rs rt hrs hrt _ _ _ _ _ _ _ _ hc) (rv_X3 hI) ml_X3_96 im_X3_readSum se_X3_readSum ini_X3 co_X3_readSum hyX3_readSum rfl ⟨by omega, by decide⟩ hl.1 rfl (Nat.le_of_ble_eq_true rfl) dX3_readComparison_2 (fun H locs hI => ?_)
  refine lv_if_ne (tgt := 10) C.1 C.2.1 dX3_readComparison_5 (by decide) (fun cn => ?_) (fun cn => ?_)
  · have hs := if_f cn hs
    refine lv_aload_n C.1 C.2.1 dX3_readComparison_10 rfl (lv_at hl 0 rfl) ?_
    refine cg_X3_84 C hI dX3_readComparison_11 ?_
    refine lv_topi (fun x2_14 ex2_14 => ?_)
    have hs := gv_at ex2_14 hs
    refine lv_istore_n (lv' := [(2, .int x2_14), (0, .ref (q 4)), (1, .int x1)]) C.1 C.2.1 dX3_readComparison_14 rfl hl (by decide) rfl (fun ls hl => ?_)
    refine lv_iload_n C.1 C.2.1 dX3_readComparison_15 rfl (lv_at hl 0 rfl) ?_
    refine lv_bipush (v := 60) C.1 C.2.1 dX3_readComparison_16 (by decide) ?_
    obtain ⟨k_35, ek_35, hs⟩ := gv_ex hs
    have KJ_35 : ∀ (I : Nat → Int32) (A : Nat → Nat → Int32) (H : Heap) (locs : List Loc) (ls : Array Slot), k_35 I A = some (r, I2, A2) → CI D cy s P0 s.heap H locs q z tl (xx.1, xx.2.1, q 6) I J A B → lv_has ls 4 [(0, .ref (q 4)), (1, .int x1), (2, .int x2_14)] → W p l e (rmL (hd + 5)) s m args below meth c H locs 0 0 (MQ below (cQ D cy P0 q tl (some (.int r)) (xx.1, xx.2.1, q 6) I2 J A2 B) args s 0 0 P0) (F0 m 35 ls []) := by
      intro I A H locs ls hs hI hl
      rw [ek_35] at hs
      refine lv_aload_n C.1 C.2.1 dX3_readComparison_35 rfl (lv_at hl 0 rfl) ?_
      obtain ⟨I, hc, hs⟩ := bd_e hs
      refine C_call C hI (kX3_advance l D cy P0 q z tl xx _ _ _ _ _ hc) (rv_X3 hI) ml_X3_54 im_X3_advance se_X3_advance ini_X3 co_X3_advance hyX3_advance rfl ⟨by omega, by decide⟩ hl.1 rfl (Nat.le_of_ble_eq_true rfl) dX3_readComparison_36 (fun H locs hI => ?_)
      refine lv_aload_n C.1 C.2.1 dX3_readComparison_39 rfl (lv_at hl 0 rfl) ?_
      refine lv_iload_n C.1 C.2.1 dX3_readComparison_40 rfl (lv_at hl 1 rfl) ?_
      obtain ⟨⟨r_41, I, A⟩, hc, hs⟩ := bd_e hs
      refine C_call C hI (kX3_readSum_F l D cy P0 q z tl xx ha hd hle hh rs rt hrs hrt _ _ _ _ _ _ _ _ hc) (rv_X3 hI) ml_X3_96 im_X3_readSum se_X3_readSum ini_X3 co_X3_readSum hyX3_readSum rfl ⟨by omega, by decide⟩ hl.1 rfl (Nat.le_of_ble_eq_true rfl) dX3_readComparison_41 (fun H locs hI => ?_)
      refine lv_istore_n (lv' := [(3, .int r_41), (0, .ref (q 4)), (1, .int x1), (2, .int x2_14)]) C.1 C.2.1 dX3_readComparison_44 rfl hl (by decide) rfl (fun ls hl => ?_)
      refine lv_aload_n C.1 C.2.1 dX3_readComparison_45 rfl (lv_at hl 1 rfl) ?_
      refine lv_iload_n C.1 C.2.1 dX3_readComparison_46 rfl (lv_at hl 3 rfl) ?_
      refine lv_iconst (v := 0) C.1 C.2.1 dX3_readComparison_47 (by decide) ?_
      obtain ⟨⟨I, A⟩, hc, hs⟩ := bd_e hs
      refine C_call C hI (kX3_write l D cy P0 q z tl xx _ _ _ _ _ _ _ _ hc) (rv_X3 hI) ml_X3_109 im_X3_write se_X3_write ini_X3 co_X3_write hyX3_write rfl ⟨by omega, by decide⟩ hl.1 rfl (Nat.le_of_ble_eq_true rfl) dX3_readComparison_48 (fun H locs hI => ?_)
      refine lv_iload_n C.1 C.2.1 dX3_readComparison_51 rfl (lv_at hl 0 rfl) ?_
      obtain ⟨hb, hs⟩ := ck_e hs
      obtain ⟨rfl, rfl, rfl⟩ := so3 hs
      exact C_zret C hI hb dX3_readComparison_52
    refine lv_icmp_eq (tgt := 35) C.1 C.2.1 dX3_readComparison_18 (by decide) (fun cn => ?_) (fun cn => ?_)
    · have hs := if_t cn hs
      exact KJ_35 _ _ _ _ _ hs hI (lv_sub hl [1, 2, 0] rfl)
    · have hs := if_f cn hs
      refine lv_iload_n C.1 C.2.1 dX3_readComparison_21 rfl (lv_at hl 0 rfl) ?_
      refine lv_bipush (v := 62) C.1 C.2.1 dX3_readComparison_22 (by decide) ?_
      refine lv_icmp_eq (tgt := 35) C.1 C.2.1 dX3_readComparison_24 (by decide) (fun cn => ?_) (fun cn => ?_)
      · have hs := if_t cn hs
        exact KJ_35 _ _ _ _ _ hs hI (lv_sub hl [1, 2, 0] rfl)
      · have hs := if_f cn hs
        refine lv_iload_n C.1 C.2.1 dX3_readComparison_27 rfl (lv_at hl 0 rfl) ?_
        refine lv_bipush (v := 61) C.1 C.2.1 dX3_readComparison_28 (by decide) ?_
        refine lv_icmp_eq (tgt := 35) C.1 C.2.1 dX3_readComparison_30 (by decide) (fun cn => ?_) (fun cn => ?_)
        · have hs := if_t cn hs
          exact KJ_35 _ _ _ _ _ hs hI (lv_sub hl [1, 2, 0] rfl)
        · have hs := if_f cn hs
          refine lv_iconst (v := 0) C.1 C.2.1 dX3_readComparison_33 (by decide) ?_
          obtain ⟨rfl, rfl, rfl⟩ := so3 hs
          exact C_zret C hI (by decide) dX3_readComparison_34
  · have hs := if_t cn hs
    refine lv_iconst (v := 0) C.1 C.2.1 dX3_readComparison_8 (by decide) ?_
    obtain ⟨rfl, rfl, rfl⟩ := so3 hs
    exact C_zret C hI (by decide) dX3_readComparison_9

def lX3_readPlain_4 (rs : Int32 → (Nat → Int32) → (Nat → Int64) → (Nat → Nat → Int32) → (Nat → Nat → Int64) → Option (Int32 × (Nat → Int32) × (Nat → Nat → Int32))) (rt : Int32 → (Nat → Int32) → (Nat → Int64) → (Nat → Nat → Int32) → (Nat → Nat → Int64) → Option (Int32 × (Nat → Int32) × (Nat → Nat → Int32))) : Nat → Int32 → Int32 → Int32 → (Nat → Int32) → (Nat → Int64) → (Nat → Nat → Int32) → (Nat → Nat → Int64) → Option (Int32 × (Nat → Int32))
  | 0, _, _, _, _, _, _, _ => none
  | n + 1, x1, x2, x3, I, J, A, B =>
    if (400 : Int32) ≤ x3 then
    (some (x2, I))
    else
    if (I 84) = (262 : Int32) then
    (gv (if x2 = 0 then (1 : Int32) else (0 : Int32)) fun v_30 =>
    (sX3_advance  I J A B).bind fun I =>
    gv (x3 + 1) fun x3_35 =>
    lX3_readPlain_4 rs rt n x1 v_30 x3_35 I J A B)
    else
    some (x2, I)
def sX3_readPlain_F (rs : Int32 → (Nat → Int32) → (Nat → Int64) → (Nat → Nat → Int32) → (Nat → Nat → Int64) → Option (Int32 × (Nat → Int32) × (Nat → Nat → Int32))) (rt : Int32 → (Nat → Int32) → (Nat → Int64) → (Nat → Nat → Int32) → (Nat → Nat → Int64) → Option (Int32 × (Nat → Int32) × (Nat → Nat → Int32))) (x1 : Int32) (I : Nat → Int32) (J : Nat → Int64) (A : Nat → Nat → Int32) (B : Nat → Nat → Int64) : Option ((Int32) × (Nat → Int32) × (Nat → Nat → Int32)) :=
(lX3_readPlain_4 rs rt FU x1 (0 : Int32) (0 : Int32) I J A B).bind fun (x2_4, I) =>
gv (fun (x3_j95 : Int32) (I : Nat → Int32) (A : Nat → Nat → Int32) =>
if x2_4 = 0 then
(ck (isB x3_j95) <|
some (x3_j95, I, A))
else
(sX3_write (2 : Int32) (0 : Int32) I J A B).bind fun (I, A) =>
ck (isB x3_j95) <|
some (x3_j95, I, A)) fun k_95 =>
if (I 84) = (40 : Int32) then
((sX3_readBracketed_F rs rt x1 (41 : Int32) I J A B).bind fun (r_54, I, A) =>
k_95 r_54 I A)
else
gv (fun (I : Nat → Int32) (A : Nat → Nat → Int32) =>
(sX3_readComparison_F rs rt x1 I J A B).bind fun (r_91, I, A) =>
k_95 r_91 I A) fun k_89 =>
if (I 84) < (273 : Int32) then
(k_89 I A)
else
if (277 : Int32) ≤ (I 84) then
(k_89 I A)
else
(sX3_readLeaf  I J A B).bind fun (r_82, I, A) =>
k_95 r_82 I A
set_option maxRecDepth 100000 in
set_option maxHeartbeats 8000000 in
theorem kX3_readPlain_F (l : Launch) (D : va_G) (cy : Nat → ClassId) (P0 : Nat → Prop) (q z : Nat → Nat) (tl : va_W) (xx : (Nat → Option Nat) × (Nat → Option Nat) × Nat) (ha hd : Nat) (hle : ha ≤ hd) (hh : 8 ≤ hd) (rs : Int32 → (Nat → Int32) → (Nat → Int64) → (Nat → Nat → Int32) → (Nat → Nat → Int64) → Option (Int32 × (Nat → Int32) × (Nat → Nat → Int32))) (rt : Int32 → (Nat → Int32) → (Nat → Int64) → (Nat → Nat → Int32) → (Nat → Nat → Int64) → Option (Int32 × (Nat → Int32) × (Nat → Nat → Int32))) (hrs : ∀ (z0 : Int32) (I : Nat → Int32) (J : Nat → Int64) (A : Nat → Nat → Int32) (B : Nat → Nat → Int64) (r : Int32) (I2 : Nat → Int32) (A2 : Nat → Nat → Int32), rs z0 I J A B = some (r, I2, A2) → McC l yX3_readSum cX3_readSum 5 (some .boolean) ha [.ref (q 4), .int z0] D cy P0 q z tl (xx.1, xx.2.1, q 6) I J A B (some (.int r)) (xx.1, xx.2.1, q 6) I2 J A2 B) (hrt : ∀ (z0 : Int32) (I : Nat → Int32) (J : Nat → Int64) (A : Nat → Nat → Int32) (B : Nat → Nat → Int64) (r : Int32) (I2 : Nat → Int32) (A2 : Nat → Nat → Int32), rt z0 I J A B = some (r, I2, A2) → McC l yX3_readTest cX3_readTest 5 (some .boolean) hd [.ref (q 4), .int z0] D cy P0 q z tl (xx.1, xx.2.1, q 6) I J A B (some (.int r)) (xx.1, xx.2.1, q 6) I2 J A2 B) (x1 : Int32) (I : Nat → Int32) (J : Nat → Int64) (A : Nat → Nat → Int32) (B : Nat → Nat → Int64) (r : Int32) (I2 : Nat → Int32) (A2 : Nat → Nat → Int32) (hs : sX3_readPlain_F rs rt x1 I J A B = some (r, I2, A2)) : McC l yX3_readPlain cX3_readPlain 4 (some .boolean) (hd + 6) [.ref (q 4), .int x1] D cy P0 q z tl (xx.1, xx.2.1, q 6) I J A B (some (.int r)) (xx.1, xx.2.1, q 6) I2 J A2 B := by
  refine C_start rfl (Nat.le_of_ble_eq_true rfl) ?_
  intro p e s m args below meth c H locs C hI ls hl
  have hl : lv_has ls 4 [(0, .ref (q 4)), (1, .int x1)] := hl
  rw [sX3_readPlain_F] at hs
  refine lv_iconst (v := 0) C.1 C.2.1 dX3_readPlain_0 (by decide) ?_
  refine lv_istore_n (lv' := [(2, .int (0 : Int32)), (0, .ref (q 4)), (1, .int x1)]) C.1 C.2.1 dX3_readPlain_1 rfl hl (by decide) rfl (fun ls hl => ?_)
  refine lv_iconst (v := 0) C.1 C.2.1 dX3_readPlain_2 (by decide) ?_
  refine lv_istore_n (lv' := [(3, .int (0 : Int32)), (2, .int (0 : Int32)), (0, .ref (q 4)), (1, .int x1)]) C.1 C.2.1 dX3_readPlain_3 rfl hl (by decide) rfl (fun ls hl => ?_)
  have KL_4 : ∀ (n : Nat) (x1 : Int32) (x2 : Int32) (x3 : Int32) (I : Nat → Int32) (J : Nat → Int64) (A : Nat → Nat → Int32) (B : Nat → Nat → Int64) (o : Int32 × (Nat → Int32)) (Q : State → Prop) (H : Heap) (locs : List Loc) (ls : Array Slot), lX3_readPlain_4 rs rt n x1 x2 x3 I J A B = some o → CI D cy s P0 s.heap H locs q z tl (xx.1, xx.2.1, q 6) I J A B → lv_has ls 4 [(0, .ref (q 4)), (1, .int x1), (2, .int x2), (3, .int x3)] → (∀ (o2_0 : Int32) (I_0 : Nat → Int32) (H : Heap) (locs : List Loc) (ls : Array Slot), o = (o2_0, I_0) → CI D cy s P0 s.heap H locs q z tl (xx.1, xx.2.1, q 6) I_0 J A B → lv_has ls 4 [(0, .ref (q 4)), (1, .int x1), (2, .int o2_0)] → W p l e (rmL (hd + 6)) s m args below meth c H locs 0 0 Q (F0 m 41 ls [])) → W p l e (rmL (hd + 6)) s m args below meth c H locs 0 0 Q (F0 m 4 ls []) := by
    intro n; induction n with
    | zero => intro x1 x2 x3 I J A B o Q H locs ls hs; rw [lX3_readPlain_4] at hs; cases hs
    | succ n ih =>
      intro x1 x2 x3 I J A B o Q H locs ls hs hI hl kk0
      rw [lX3_readPlain_4] at hs
      refine lv_iload_n C.1 C.2.1 dX3_readPlain_4 rfl (lv_at hl 3 rfl) ?_
      refine lv_sipush (v := 400) C.1 C.2.1 dX3_readPlain_5 (by decide) ?_
      refine lv_icmp_ge (tgt := 41) C.1 C.2.1 dX3_readPlain_8 (by decide) (fun cn => ?_) (fun cn => ?_)
      · have hs := if_t cn hs
        have eo := (Option.some.inj hs).symm
        exact kk0 _ _ _ _ _ eo hI (lv_sub hl [0, 1, 2] rfl)
      · have hs := if_f cn hs
        refine lv_aload_n C.1 C.2.1 dX3_readPlain_11 rfl (lv_at hl 0 rfl) ?_
        refine cg_X3_84 C hI dX3_readPlain_12 ?_
        refine lv_sipush (v := 262) C.1 C.2.1 dX3_readPlain_15 (by decide) ?_
        refine lv_icmp_ne (tgt := 41) C.1 C.2.1 dX3_readPlain_18 (by decide) (fun cn => ?_) (fun cn => ?_)
        · have hs := if_f cn hs
          have eo := (Option.some.inj hs).symm
          exact kk0 _ _ _ _ _ eo hI (lv_sub hl [0, 1, 2] rfl)
        · have hs := if_t cn hs
          refine lv_iload_n C.1 C.2.1 dX3_readPlain_21 rfl (lv_at hl 2 rfl) ?_
          obtain ⟨v_30, ev_30, hs⟩ := gv_ex hs
          have KP_30 : W p l e (rmL (hd + 6)) s m args below meth c H locs 0 0 Q (F0 m 30 ls [.int v_30]) := by
            refine lv_istore_n (lv' := [(2, .int v_30), (0, .ref (q 4)), (1, .int x1), (3, .int x3)]) C.1 C.2.1 dX3_readPlain_30 rfl hl (by decide) rfl (fun ls hl => ?_)
            refine lv_aload_n C.1 C.2.1 dX3_readPlain_31 rfl (lv_at hl 1 rfl) ?_
            obtain ⟨I, hc, hs⟩ := bd_e hs
            refine C_call C hI (kX3_advance l D cy P0 q z tl xx _ _ _ _ _ hc) (rv_X3 hI) ml_X3_54 im_X3_advance se_X3_advance ini_X3 co_X3_advance hyX3_advance rfl ⟨by omega, by decide⟩ hl.1 rfl (Nat.le_of_ble_eq_true rfl) dX3_readPlain_32 (fun H locs hI => ?_)
            obtain ⟨x3_35, ex3_35⟩ : ∃ y : Int32, y = (x3 + 1) := ⟨_, rfl⟩
            have hs := gv_at ex3_35 hs
            refine lv_iinc (v := x3_35) (lv' := [(3, .int x3_35), (2, .int v_30), (0, .ref (q 4)), (1, .int x1)]) C.1 C.2.1 dX3_readPlain_35 hl (k := 3) rfl (by rw [ex3_35]; rfl) (by decide) rfl (fun ls hl => ?_)
            refine lv_goto (tgt := 4) C.1 C.2.1 dX3_readPlain_38 (by decide) ?_
            exact ih _ _ _ _ _ _ _ _ _ _ _ _ hs hI (lv_sub hl [2, 3, 1, 0] rfl) kk0
          refine lv_if_ne (tgt := 29) C.1 C.2.1 dX3_readPlain_22 (by decide) (fun cn => ?_) (fun cn => ?_)
          · have ev_30 := if_f' cn ev_30
            refine lv_iconst (v := 0) C.1 C.2.1 dX3_readPlain_29 (by decide) ?_
            subst ev_30
            exact KP_30
          · have ev_30 := if_t' cn ev_30
            refine lv_iconst (v := 1) C.1 C.2.1 dX3_readPlain_25 (by decide) ?_
            refine lv_goto (tgt := 30) C.1 C.2.1 dX3_readPlain_26 (by decide) ?_
            subst ev_30
            exact KP_30
  obtain ⟨⟨x2_4, I_L⟩, hL, hs⟩ := bd_e hs
  refine KL_4 FU _ _ _ _ _ _ _ _ _ _ _ _ hL hI (lv_sub hl [2, 3, 1, 0] rfl) (fun z0 z1 H locs ls eo hI hl => ?_)
  obtain ⟨rfl, rfl⟩ := pr2 eo
  refine lv_aload_n C.1 C.2.1 dX3_readPlain_41 rfl (lv_at hl 0 rfl) ?_
  refine cg_X3_84 C hI dX3_readPlain_42 ?_
  refine lv_bipush (v := 40) C.1 C.2.1 dX3_readPlain_45 (by decide) ?_
  obtain ⟨k_95, ek_95, hs⟩ := gv_ex hs
  have KJ_95 : ∀ (x3_j95 : Int32) (I : Nat → Int32) (A : Nat → Nat → Int32) (H : Heap) (locs : List Loc) (ls : Array Slot), k_95 x3_j95 I A = some (r, I2, A2) → CI D cy s P0 s.heap H locs q z tl (xx.1, xx.2.1, q 6) I J A B → lv_has ls 4 [(0, .ref (q 4)), (2, .int x2_4), (3, .int x3_j95)] → W p l e (rmL (hd + 6)) s m args below meth c H locs 0 0 (MQ below (cQ D cy P0 q tl (some (.int r)) (xx.1, xx.2.1, q 6) I2 J A2 B) args s 0 0 P0) (F0 m 95 ls []) := by
    intro x3_j95 I A H locs ls hs hI hl
    rw [ek_95] at hs
    refine lv_iload_n C.1 C.2.1 dX3_readPlain_95 rfl (lv_at hl 1 rfl) ?_
    refine lv_if_eq (tgt := 105) C.1 C.2.1 dX3_readPlain_96 (by decide) (fun cn => ?_) (fun cn => ?_)
    · have hs := if_t cn hs
      refine lv_iload_n C.1 C.2.1 dX3_readPlain_105 rfl (lv_at hl 2 rfl) ?_
      obtain ⟨hb, hs⟩ := ck_e hs
      obtain ⟨rfl, rfl, rfl⟩ := so3 hs
      exact C_zret C hI hb dX3_readPlain_106
    · have hs := if_f cn hs
      refine lv_aload_n C.1 C.2.1 dX3_readPlain_99 rfl (lv_at hl 0 rfl) ?_
      refine lv_iconst (v := 2) C.1 C.2.1 dX3_readPlain_100 (by decide) ?_
      refine lv_iconst (v := 0) C.1 C.2.1 dX3_readPlain_101 (by decide) ?_
      obtain ⟨⟨I, A⟩, hc, hs⟩ := bd_e hs
      refine C_call C hI (kX3_write l D cy P0 q z tl xx _ _ _ _ _ _ _ _ hc) (rv_X3 hI) ml_X3_109 im_X3_write se_X3_write ini_X3 co_X3_write hyX3_write rfl ⟨by omega, by decide⟩ hl.1 rfl (Nat.le_of_ble_eq_true rfl) dX3_readPlain_102 (fun H locs hI => ?_)
      refine lv_iload_n C.1 C.2.1 dX3_readPlain_105 rfl (lv_at hl 2 rfl) ?_
      obtain ⟨hb, hs⟩ := ck_e hs
      obtain ⟨rfl, rfl, rfl⟩ := so3 hs
      exact C_zret C hI hb dX3_readPlain_106
  refine lv_icmp_ne (tgt := 61) C.1 C.2.1 dX3_readPlain_47 (by decide) (fun cn => ?_) (fun cn => ?_)
  · have hs := if_f cn hs
    refine lv_aload_n C.1 C.2.1 dX3_readPlain_61 rfl (lv_at hl 0 rfl) ?_
    refine cg_X3_84 C hI dX3_readPlain_62 ?_
    refine lv_sipush (v := 273) C.1 C.2.1 dX3_readPlain_65 (by decide) ?_
    obtain ⟨k_89, ek_89, hs⟩ := gv_ex hs
    have KJ_89 : ∀ (I : Nat → Int32) (A : Nat → Nat → Int32) (H : Heap) (locs : List Loc) (ls : Array Slot), k_89 I A = some (r, I2, A2) → CI D cy s P0 s.heap H locs q z tl (xx.1, xx.2.1, q 6) I J A B → lv_has ls 4 [(0, .ref (q 4)), (1, .int x1), (2, .int x2_4)] → W p l e (rmL (hd + 6)) s m args below meth c H locs 0 0 (MQ below (cQ D cy P0 q tl (some (.int r)) (xx.1, xx.2.1, q 6) I2 J A2 B) args s 0 0 P0) (F0 m 89 ls []) := by
      intro I A H locs ls hs hI hl
      rw [ek_89] at hs
      refine lv_aload_n C.1 C.2.1 dX3_readPlain_89 rfl (lv_at hl 0 rfl) ?_
      refine lv_iload_n C.1 C.2.1 dX3_readPlain_90 rfl (lv_at hl 1 rfl) ?_
      obtain ⟨⟨r_91, I, A⟩, hc, hs⟩ := bd_e hs
      refine C_call C hI (kX3_readComparison_F l D cy P0 q z tl xx ha hd hle hh rs rt hrs hrt _ _ _ _ _ _ _ _ hc) (rv_X3 hI) ml_X3_127 im_X3_readComparison se_X3_readComparison ini_X3 co_X3_readComparison hyX3_readComparison rfl ⟨by omega, by decide⟩ hl.1 rfl (Nat.le_of_ble_eq_true rfl) dX3_readPlain_91 (fun H locs hI => ?_)
      refine lv_istore_n (lv' := [(3, .int r_91), (0, .ref (q 4)), (1, .int x1), (2, .int x2_4)]) C.1 C.2.1 dX3_readPlain_94 rfl hl (by decide) rfl (fun ls hl => ?_)
      exact KJ_95 _ _ _ _ _ _ hs hI (lv_sub hl [1, 3, 0] rfl)
    refine lv_icmp_lt (tgt := 89) C.1 C.2.1 dX3_readPlain_68 (by decide) (fun cn => ?_) (fun cn => ?_)
    · have hs := if_t cn hs
      exact KJ_89 _ _ _ _ _ hs hI (lv_sub hl [0, 1, 2] rfl)
    · have hs := if_f cn hs
      refine lv_aload_n C.1 C.2.1 dX3_readPlain_71 rfl (lv_at hl 0 rfl) ?_
      refine cg_X3_84 C hI dX3_readPlain_72 ?_
      refine lv_sipush (v := 277) C.1 C.2.1 dX3_readPlain_75 (by decide) ?_
      refine lv_icmp_ge (tgt := 89) C.1 C.2.1 dX3_readPlain_78 (by decide) (fun cn => ?_) (fun cn => ?_)
      · have hs := if_t cn hs
        exact KJ_89 _ _ _ _ _ hs hI (lv_sub hl [0, 1, 2] rfl)
      · have hs := if_f cn hs
        refine lv_aload_n C.1 C.2.1 dX3_readPlain_81 rfl (lv_at hl 0 rfl) ?_
        obtain ⟨⟨r_82, I, A⟩, hc, hs⟩ := bd_e hs
        refine C_call C hI (kX3_readLeaf l D cy P0 q z tl xx _ _ _ _ _ _ _ hc) (rv_X3 hI) ml_X3_124 im_X3_readLeaf se_X3_readLeaf ini_X3 co_X3_readLeaf hyX3_readLeaf rfl ⟨by omega, by decide⟩ hl.1 rfl (Nat.le_of_ble_eq_true rfl) dX3_readPlain_82 (fun H locs hI => ?_)
        refine lv_istore_n (lv' := [(3, .int r_82), (0, .ref (q 4)), (1, .int x1), (2, .int x2_4)]) C.1 C.2.1 dX3_readPlain_85 rfl hl (by decide) rfl (fun ls hl => ?_)
        refine lv_goto (tgt := 95) C.1 C.2.1 dX3_readPlain_86 (by decide) ?_
        exact KJ_95 _ _ _ _ _ _ hs hI (lv_sub hl [1, 3, 0] rfl)
  · have hs := if_t cn hs
    refine lv_aload_n C.1 C.2.1 dX3_readPlain_50 rfl (lv_at hl 0 rfl) ?_
    refine lv_iload_n C.1 C.2.1 dX3_readPlain_51 rfl (lv_at hl 1 rfl) ?_
    refine lv_bipush (v := 41) C.1 C.2.1 dX3_readPlain_52 (by decide) ?_
    obtain ⟨⟨r_54, I, A⟩, hc, hs⟩ := bd_e hs
    refine C_call C hI (kX3_readBracketed_F l D cy P0 q z tl xx ha hd hle hh rs rt hrs hrt _ _ _ _ _ _ _ _ _ hc) (rv_X3 hI) ml_X3_120 im_X3_readBracketed se_X3_readBracketed ini_X3 co_X3_readBracketed hyX3_readBracketed rfl ⟨by omega, by decide⟩ hl.1 rfl (Nat.le_of_ble_eq_true rfl) dX3_readPlain_54 (fun H locs hI => ?_)
    refine lv_istore_n (lv' := [(3, .int r_54), (0, .ref (q 4)), (1, .int x1), (2, .int x2_4)]) C.1 C.2.1 dX3_readPlain_57 rfl hl (by decide) rfl (fun ls hl => ?_)
    refine lv_goto (tgt := 95) C.1 C.2.1 dX3_readPlain_58 (by decide) ?_
    exact KJ_95 _ _ _ _ _ _ hs hI (lv_sub hl [1, 3, 0] rfl)

def lX3_readBoth_8 (rs : Int32 → (Nat → Int32) → (Nat → Int64) → (Nat → Nat → Int32) → (Nat → Nat → Int64) → Option (Int32 × (Nat → Int32) × (Nat → Nat → Int32))) (rt : Int32 → (Nat → Int32) → (Nat → Int64) → (Nat → Nat → Int32) → (Nat → Nat → Int64) → Option (Int32 × (Nat → Int32) × (Nat → Nat → Int32))) : Nat → Int32 → Int32 → Int32 → (Nat → Int32) → (Nat → Int64) → (Nat → Nat → Int32) → (Nat → Nat → Int64) → Option (Int32 × (Nat → Int32) × (Nat → Nat → Int32))
  | 0, _, _, _, _, _, _, _ => none
  | n + 1, x1, x2, x3, I, J, A, B =>
    if (400 : Int32) ≤ x3 then
    (some (x2, I, A))
    else
    if x2 = 0 then
    (some (x2, I, A))
    else
    if (I 84) = (261 : Int32) then
    (gv (I 90) fun x4_33 =>
    (sX3_write (261 : Int32) (0 : Int32) I J A B).bind fun (I, A) =>
    (sX3_advance  I J A B).bind fun I =>
    (sX3_readPlain_F rs rt x1 I J A B).bind fun (r_49, I, A) =>
    (sX3_land x4_33 I J A B).bind fun A =>
    gv (x3 + 1) fun x3_59 =>
    lX3_readBoth_8 rs rt n x1 r_49 x3_59 I J A B)
    else
    some (x2, I, A)
def sX3_readBoth_F (rs : Int32 → (Nat → Int32) → (Nat → Int64) → (Nat → Nat → Int32) → (Nat → Nat → Int64) → Option (Int32 × (Nat → Int32) × (Nat → Nat → Int32))) (rt : Int32 → (Nat → Int32) → (Nat → Int64) → (Nat → Nat → Int32) → (Nat → Nat → Int64) → Option (Int32 × (Nat → Int32) × (Nat → Nat → Int32))) (x1 : Int32) (I : Nat → Int32) (J : Nat → Int64) (A : Nat → Nat → Int32) (B : Nat → Nat → Int64) : Option ((Int32) × (Nat → Int32) × (Nat → Nat → Int32)) :=
(sX3_readPlain_F rs rt x1 I J A B).bind fun (r_2, I, A) =>
(lX3_readBoth_8 rs rt FU x1 r_2 (0 : Int32) I J A B).bind fun (x2_8, I, A) =>
ck (isB x2_8) <|
some (x2_8, I, A)
set_option maxRecDepth 100000 in
set_option maxHeartbeats 8000000 in
theorem kX3_readBoth_F (l : Launch) (D : va_G) (cy : Nat → ClassId) (P0 : Nat → Prop) (q z : Nat → Nat) (tl : va_W) (xx : (Nat → Option Nat) × (Nat → Option Nat) × Nat) (ha hd : Nat) (hle : ha ≤ hd) (hh : 8 ≤ hd) (rs : Int32 → (Nat → Int32) → (Nat → Int64) → (Nat → Nat → Int32) → (Nat → Nat → Int64) → Option (Int32 × (Nat → Int32) × (Nat → Nat → Int32))) (rt : Int32 → (Nat → Int32) → (Nat → Int64) → (Nat → Nat → Int32) → (Nat → Nat → Int64) → Option (Int32 × (Nat → Int32) × (Nat → Nat → Int32))) (hrs : ∀ (z0 : Int32) (I : Nat → Int32) (J : Nat → Int64) (A : Nat → Nat → Int32) (B : Nat → Nat → Int64) (r : Int32) (I2 : Nat → Int32) (A2 : Nat → Nat → Int32), rs z0 I J A B = some (r, I2, A2) → McC l yX3_readSum cX3_readSum 5 (some .boolean) ha [.ref (q 4), .int z0] D cy P0 q z tl (xx.1, xx.2.1, q 6) I J A B (some (.int r)) (xx.1, xx.2.1, q 6) I2 J A2 B) (hrt : ∀ (z0 : Int32) (I : Nat → Int32) (J : Nat → Int64) (A : Nat → Nat → Int32) (B : Nat → Nat → Int64) (r : Int32) (I2 : Nat → Int32) (A2 : Nat → Nat → Int32), rt z0 I J A B = some (r, I2, A2) → McC l yX3_readTest cX3_readTest 5 (some .boolean) hd [.ref (q 4), .int z0] D cy P0 q z tl (xx.1, xx.2.1, q 6) I J A B (some (.int r)) (xx.1, xx.2.1, q 6) I2 J A2 B) (x1 : Int32) (I : Nat → Int32) (J : Nat → Int64) (A : Nat → Nat → Int32) (B : Nat → Nat → Int64) (r : Int32) (I2 : Nat → Int32) (A2 : Nat → Nat → Int32) (hs : sX3_readBoth_F rs rt x1 I J A B = some (r, I2, A2)) : McC l yX3_readBoth cX3_readBoth 5 (some .boolean) (hd + 7) [.ref (q 4), .int x1] D cy P0 q z tl (xx.1, xx.2.1, q 6) I J A B (some (.int r)) (xx.1, xx.2.1, q 6) I2 J A2 B := by
  refine C_start rfl (Nat.le_of_ble_eq_true rfl) ?_
  intro p e s m args below meth c H locs C hI ls hl
  have hl : lv_has ls 5 [(0, .ref (q 4)), (1, .int x1)] := hl
  rw [sX3_readBoth_F] at hs
  refine lv_aload_n C.1 C.2.1 dX3_readBoth_0 rfl (lv_at hl 0 rfl) ?_
  refine lv_iload_n C.1 C.2.1 dX3_readBoth_1 rfl (lv_at hl 1 rfl) ?_
  obtain ⟨⟨r_2, I, A⟩, hc, hs⟩ := bd_e hs
  refine C_call C hI (kX3_readPlain_F l D cy P0 q z tl xx ha hd hle hh rs rt hrs hrt _ _ _ _ _ _ _ _ hc) (rv_X3 hI) ml_X3_117 im_X3_readPlain se_X3_readPlain ini_X3 co_X3_readPlain hyX3_readPlain rfl ⟨by omega, by decide⟩ hl.1 rfl (Nat.le_of_ble_eq_true rfl) dX3_readBoth_2 (fun H locs hI => ?_)
  refine lv_istore_n (lv' := [(2, .int r_2), (0, .ref (q 4)), (1, .int x1)]) C.1 C.2.1 dX3_readBoth_5 rfl hl (by decide) rfl (fun ls hl => ?_)
  refine lv_iconst (v := 0) C.1 C.2.1 dX3_readBoth_6 (by decide) ?_
  refine lv_istore_n (lv' := [(3, .int (0 : Int32)), (2, .int r_2), (0, .ref (q 4)), (1, .int x1)]) C.1 C.2.1 dX3_readBoth_7 rfl hl (by decide) rfl (fun ls hl => ?_)
  have KL_8 : ∀ (n : Nat) (x1 : Int32) (x2 : Int32) (x3 : Int32) (I : Nat → Int32) (J : Nat → Int64) (A : Nat → Nat → Int32) (B : Nat → Nat → Int64) (o : Int32 × (Nat → Int32) × (Nat → Nat → Int32)) (Q : State → Prop) (H : Heap) (locs : List Loc) (ls : Array Slot), lX3_readBoth_8 rs rt n x1 x2 x3 I J A B = some o → CI D cy s P0 s.heap H locs q z tl (xx.1, xx.2.1, q 6) I J A B → lv_has ls 5 [(0, .ref (q 4)), (1, .int x1), (2, .int x2), (3, .int x3)] → (∀ (o2_0 : Int32) (I_0 : Nat → Int32) (A_0 : Nat → Nat → Int32) (H : Heap) (locs : List Loc) (ls : Array Slot), o = (o2_0, I_0, A_0) → CI D cy s P0 s.heap H locs q z tl (xx.1, xx.2.1, q 6) I_0 J A_0 B → lv_has ls 5 [(2, .int o2_0)] → W p l e (rmL (hd + 7)) s m args below meth c H locs 0 0 Q (F0 m 65 ls [])) → W p l e (rmL (hd + 7)) s m args below meth c H locs 0 0 Q (F0 m 8 ls []) := by
    intro n; induction n with
    | zero => intro x1 x2 x3 I J A B o Q H locs ls hs; rw [lX3_readBoth_8] at hs; cases hs
    | succ n ih =>
      intro x1 x2 x3 I J A B o Q H locs ls hs hI hl kk0
      rw [lX3_readBoth_8] at hs
      refine lv_iload_n C.1 C.2.1 dX3_readBoth_8 rfl (lv_at hl 3 rfl) ?_
      refine lv_sipush (v := 400) C.1 C.2.1 dX3_readBoth_9 (by decide) ?_
      refine lv_icmp_ge (tgt := 65) C.1 C.2.1 dX3_readBoth_12 (by decide) (fun cn => ?_) (fun cn => ?_)
      · have hs := if_t cn hs
        have eo := (Option.some.inj hs).symm
        exact kk0 _ _ _ _ _ _ eo hI (lv_sub hl [2] rfl)
      · have hs := if_f cn hs
        refine lv_iload_n C.1 C.2.1 dX3_readBoth_15 rfl (lv_at hl 2 rfl) ?_
        refine lv_if_eq (tgt := 65) C.1 C.2.1 dX3_readBoth_16 (by decide) (fun cn => ?_) (fun cn => ?_)
        · have hs := if_t cn hs
          have eo := (Option.some.inj hs).symm
          exact kk0 _ _ _ _ _ _ eo hI (lv_sub hl [2] rfl)
        · have hs := if_f cn hs
          refine lv_aload_n C.1 C.2.1 dX3_readBoth_19 rfl (lv_at hl 0 rfl) ?_
          refine cg_X3_84 C hI dX3_readBoth_20 ?_
          refine lv_sipush (v := 261) C.1 C.2.1 dX3_readBoth_23 (by decide) ?_
          refine lv_icmp_ne (tgt := 65) C.1 C.2.1 dX3_readBoth_26 (by decide) (fun cn => ?_) (fun cn => ?_)
          · have hs := if_f cn hs
            have eo := (Option.some.inj hs).symm
            exact kk0 _ _ _ _ _ _ eo hI (lv_sub hl [2] rfl)
          · have hs := if_t cn hs
            refine lv_aload_n C.1 C.2.1 dX3_readBoth_29 rfl (lv_at hl 0 rfl) ?_
            refine cg_X3_90 C hI dX3_readBoth_30 ?_
            refine lv_topi (fun x4_33 ex4_33 => ?_)
            have hs := gv_at ex4_33 hs
            refine lv_istore (lv' := [(4, .int x4_33), (0, .ref (q 4)), (1, .int x1), (2, .int x2), (3, .int x3)]) C.1 C.2.1 dX3_readBoth_33 hl (by decide) rfl (fun ls hl => ?_)
            refine lv_aload_n C.1 C.2.1 dX3_readBoth_35 rfl (lv_at hl 1 rfl) ?_
            refine lv_sipush (v := 261) C.1 C.2.1 dX3_readBoth_36 (by decide) ?_
            refine lv_iconst (v := 0) C.1 C.2.1 dX3_readBoth_39 (by decide) ?_
            obtain ⟨⟨I, A⟩, hc, hs⟩ := bd_e hs
            refine C_call C hI (kX3_write l D cy P0 q z tl xx _ _ _ _ _ _ _ _ hc) (rv_X3 hI) ml_X3_109 im_X3_write se_X3_write ini_X3 co_X3_write hyX3_write rfl ⟨by omega, by decide⟩ hl.1 rfl (Nat.le_of_ble_eq_true rfl) dX3_readBoth_40 (fun H locs hI => ?_)
            refine lv_aload_n C.1 C.2.1 dX3_readBoth_43 rfl (lv_at hl 1 rfl) ?_
            obtain ⟨I, hc, hs⟩ := bd_e hs
            refine C_call C hI (kX3_advance l D cy P0 q z tl xx _ _ _ _ _ hc) (rv_X3 hI) ml_X3_54 im_X3_advance se_X3_advance ini_X3 co_X3_advance hyX3_advance rfl ⟨by omega, by decide⟩ hl.1 rfl (Nat.le_of_ble_eq_true rfl) dX3_readBoth_44 (fun H locs hI => ?_)
            refine lv_aload_n C.1 C.2.1 dX3_readBoth_47 rfl (lv_at hl 1 rfl) ?_
            refine lv_iload_n C.1 C.2.1 dX3_readBoth_48 rfl (lv_at hl 2 rfl) ?_
            obtain ⟨⟨r_49, I, A⟩, hc, hs⟩ := bd_e hs
            refine C_call C hI (kX3_readPlain_F l D cy P0 q z tl xx ha hd hle hh rs rt hrs hrt _ _ _ _ _ _ _ _ hc) (rv_X3 hI) ml_X3_117 im_X3_readPlain se_X3_readPlain ini_X3 co_X3_readPlain hyX3_readPlain rfl ⟨by omega, by decide⟩ hl.1 rfl (Nat.le_of_ble_eq_true rfl) dX3_readBoth_49 (fun H locs hI => ?_)
            refine lv_istore_n (lv' := [(2, .int r_49), (4, .int x4_33), (0, .ref (q 4)), (1, .int x1), (3, .int x3)]) C.1 C.2.1 dX3_readBoth_52 rfl hl (by decide) rfl (fun ls hl => ?_)
            refine lv_aload_n C.1 C.2.1 dX3_readBoth_53 rfl (lv_at hl 2 rfl) ?_
            refine lv_iload C.1 C.2.1 dX3_readBoth_54 (lv_at hl 1 rfl) ?_
            obtain ⟨A, hc, hs⟩ := bd_e hs
            refine C_call C hI (kX3_land l D cy P0 q z tl xx _ _ _ _ _ _ hc) (rv_X3 hI) ml_X3_113 im_X3_land se_X3_land ini_X3 co_X3_land hyX3_land rfl ⟨by omega, by decide⟩ hl.1 rfl (Nat.le_of_ble_eq_true rfl) dX3_readBoth_56 (fun H locs hI => ?_)
            obtain ⟨x3_59, ex3_59⟩ : ∃ y : Int32, y = (x3 + 1) := ⟨_, rfl⟩
            have hs := gv_at ex3_59 hs
            refine lv_iinc (v := x3_59) (lv' := [(3, .int x3_59), (2, .int r_49), (4, .int x4_33), (0, .ref (q 4)), (1, .int x1)]) C.1 C.2.1 dX3_readBoth_59 hl (k := 4) rfl (by rw [ex3_59]; rfl) (by decide) rfl (fun ls hl => ?_)
            refine lv_goto (tgt := 8) C.1 C.2.1 dX3_readBoth_62 (by decide) ?_
            exact ih _ _ _ _ _ _ _ _ _ _ _ _ hs hI (lv_sub hl [3, 4, 1, 0] rfl) kk0
  obtain ⟨⟨x2_8, I_L, A_L⟩, hL, hs⟩ := bd_e hs
  refine KL_8 FU _ _ _ _ _ _ _ _ _ _ _ _ hL hI (lv_sub hl [2, 3, 1, 0] rfl) (fun z0 z1 z2 H locs ls eo hI hl => ?_)
  obtain ⟨rfl, rfl, rfl⟩ := pr3 eo
  refine lv_iload_n C.1 C.2.1 dX3_readBoth_65 rfl (lv_at hl 0 rfl) ?_
  obtain ⟨hb, hs⟩ := ck_e hs
  obtain ⟨rfl, rfl, rfl⟩ := so3 hs
  exact C_zret C hI hb dX3_readBoth_66

def lX3_readTest_8 (rs : Int32 → (Nat → Int32) → (Nat → Int64) → (Nat → Nat → Int32) → (Nat → Nat → Int64) → Option (Int32 × (Nat → Int32) × (Nat → Nat → Int32))) (rt : Int32 → (Nat → Int32) → (Nat → Int64) → (Nat → Nat → Int32) → (Nat → Nat → Int64) → Option (Int32 × (Nat → Int32) × (Nat → Nat → Int32))) : Nat → Int32 → Int32 → Int32 → (Nat → Int32) → (Nat → Int64) → (Nat → Nat → Int32) → (Nat → Nat → Int64) → Option (Int32 × (Nat → Int32) × (Nat → Nat → Int32))
  | 0, _, _, _, _, _, _, _ => none
  | n + 1, x1, x2, x3, I, J, A, B =>
    if (400 : Int32) ≤ x3 then
    (some (x2, I, A))
    else
    if x2 = 0 then
    (some (x2, I, A))
    else
    if (I 84) = (260 : Int32) then
    (gv (I 90) fun x4_33 =>
    (sX3_write (260 : Int32) (0 : Int32) I J A B).bind fun (I, A) =>
    (sX3_advance  I J A B).bind fun I =>
    (sX3_readBoth_F rs rt x1 I J A B).bind fun (r_49, I, A) =>
    (sX3_land x4_33 I J A B).bind fun A =>
    gv (x3 + 1) fun x3_59 =>
    lX3_readTest_8 rs rt n x1 r_49 x3_59 I J A B)
    else
    some (x2, I, A)
def sX3_readTest_F (rs : Int32 → (Nat → Int32) → (Nat → Int64) → (Nat → Nat → Int32) → (Nat → Nat → Int64) → Option (Int32 × (Nat → Int32) × (Nat → Nat → Int32))) (rt : Int32 → (Nat → Int32) → (Nat → Int64) → (Nat → Nat → Int32) → (Nat → Nat → Int64) → Option (Int32 × (Nat → Int32) × (Nat → Nat → Int32))) (x1 : Int32) (I : Nat → Int32) (J : Nat → Int64) (A : Nat → Nat → Int32) (B : Nat → Nat → Int64) : Option ((Int32) × (Nat → Int32) × (Nat → Nat → Int32)) :=
(sX3_readBoth_F rs rt x1 I J A B).bind fun (r_2, I, A) =>
(lX3_readTest_8 rs rt FU x1 r_2 (0 : Int32) I J A B).bind fun (x2_8, I, A) =>
ck (isB x2_8) <|
some (x2_8, I, A)
set_option maxRecDepth 100000 in
set_option maxHeartbeats 8000000 in
theorem kX3_readTest_F (l : Launch) (D : va_G) (cy : Nat → ClassId) (P0 : Nat → Prop) (q z : Nat → Nat) (tl : va_W) (xx : (Nat → Option Nat) × (Nat → Option Nat) × Nat) (ha hd : Nat) (hle : ha ≤ hd) (hh : 8 ≤ hd) (rs : Int32 → (Nat → Int32) → (Nat → Int64) → (Nat → Nat → Int32) → (Nat → Nat → Int64) → Option (Int32 × (Nat → Int32) × (Nat → Nat → Int32))) (rt : Int32 → (Nat → Int32) → (Nat → Int64) → (Nat → Nat → Int32) → (Nat → Nat → Int64) → Option (Int32 × (Nat → Int32) × (Nat → Nat → Int32))) (hrs : ∀ (z0 : Int32) (I : Nat → Int32) (J : Nat → Int64) (A : Nat → Nat → Int32) (B : Nat → Nat → Int64) (r : Int32) (I2 : Nat → Int32) (A2 : Nat → Nat → Int32), rs z0 I J A B = some (r, I2, A2) → McC l yX3_readSum cX3_readSum 5 (some .boolean) ha [.ref (q 4), .int z0] D cy P0 q z tl (xx.1, xx.2.1, q 6) I J A B (some (.int r)) (xx.1, xx.2.1, q 6) I2 J A2 B) (hrt : ∀ (z0 : Int32) (I : Nat → Int32) (J : Nat → Int64) (A : Nat → Nat → Int32) (B : Nat → Nat → Int64) (r : Int32) (I2 : Nat → Int32) (A2 : Nat → Nat → Int32), rt z0 I J A B = some (r, I2, A2) → McC l yX3_readTest cX3_readTest 5 (some .boolean) hd [.ref (q 4), .int z0] D cy P0 q z tl (xx.1, xx.2.1, q 6) I J A B (some (.int r)) (xx.1, xx.2.1, q 6) I2 J A2 B) (x1 : Int32) (I : Nat → Int32) (J : Nat → Int64) (A : Nat → Nat → Int32) (B : Nat → Nat → Int64) (r : Int32) (I2 : Nat → Int32) (A2 : Nat → Nat → Int32) (hs : sX3_readTest_F rs rt x1 I J A B = some (r, I2, A2)) : McC l yX3_readTest cX3_readTest 5 (some .boolean) (hd + 8) [.ref (q 4), .int x1] D cy P0 q z tl (xx.1, xx.2.1, q 6) I J A B (some (.int r)) (xx.1, xx.2.1, q 6) I2 J A2 B := by
  refine C_start rfl (Nat.le_of_ble_eq_true rfl) ?_
  intro p e s m args below meth c H locs C hI ls hl
  have hl : lv_has ls 5 [(0, .ref (q 4)), (1, .int x1)] := hl
  rw [sX3_readTest_F] at hs
  refine lv_aload_n C.1 C.2.1 dX3_readTest_0 rfl (lv_at hl 0 rfl) ?_
  refine lv_iload_n C.1 C.2.1 dX3_readTest_1 rfl (lv_at hl 1 rfl) ?_
  obtain ⟨⟨r_2, I, A⟩, hc, hs⟩ := bd_e hs
  refine C_call C hI (kX3_readBoth_F l D cy P0 q z tl xx ha hd hle hh rs rt hrs hrt _ _ _ _ _ _ _ _ hc) (rv_X3 hI) ml_X3_106 im_X3_readBoth se_X3_readBoth ini_X3 co_X3_readBoth hyX3_readBoth rfl ⟨by omega, by decide⟩ hl.1 rfl (Nat.le_of_ble_eq_true rfl) dX3_readTest_2 (fun H locs hI => ?_)
  refine lv_istore_n (lv' := [(2, .int r_2), (0, .ref (q 4)), (1, .int x1)]) C.1 C.2.1 dX3_readTest_5 rfl hl (by decide) rfl (fun ls hl => ?_)
  refine lv_iconst (v := 0) C.1 C.2.1 dX3_readTest_6 (by decide) ?_
  refine lv_istore_n (lv' := [(3, .int (0 : Int32)), (2, .int r_2), (0, .ref (q 4)), (1, .int x1)]) C.1 C.2.1 dX3_readTest_7 rfl hl (by decide) rfl (fun ls hl => ?_)
  have KL_8 : ∀ (n : Nat) (x1 : Int32) (x2 : Int32) (x3 : Int32) (I : Nat → Int32) (J : Nat → Int64) (A : Nat → Nat → Int32) (B : Nat → Nat → Int64) (o : Int32 × (Nat → Int32) × (Nat → Nat → Int32)) (Q : State → Prop) (H : Heap) (locs : List Loc) (ls : Array Slot), lX3_readTest_8 rs rt n x1 x2 x3 I J A B = some o → CI D cy s P0 s.heap H locs q z tl (xx.1, xx.2.1, q 6) I J A B → lv_has ls 5 [(0, .ref (q 4)), (1, .int x1), (2, .int x2), (3, .int x3)] → (∀ (o2_0 : Int32) (I_0 : Nat → Int32) (A_0 : Nat → Nat → Int32) (H : Heap) (locs : List Loc) (ls : Array Slot), o = (o2_0, I_0, A_0) → CI D cy s P0 s.heap H locs q z tl (xx.1, xx.2.1, q 6) I_0 J A_0 B → lv_has ls 5 [(2, .int o2_0)] → W p l e (rmL (hd + 8)) s m args below meth c H locs 0 0 Q (F0 m 65 ls [])) → W p l e (rmL (hd + 8)) s m args below meth c H locs 0 0 Q (F0 m 8 ls []) := by
    intro n; induction n with
    | zero => intro x1 x2 x3 I J A B o Q H locs ls hs; rw [lX3_readTest_8] at hs; cases hs
    | succ n ih =>
      intro x1 x2 x3 I J A B o Q H locs ls hs hI hl kk0
      rw [lX3_readTest_8] at hs
      refine lv_iload_n C.1 C.2.1 dX3_readTest_8 rfl (lv_at hl 3 rfl) ?_
      refine lv_sipush (v := 400) C.1 C.2.1 dX3_readTest_9 (by decide) ?_
      refine lv_icmp_ge (tgt := 65) C.1 C.2.1 dX3_readTest_12 (by decide) (fun cn => ?_) (fun cn => ?_)
      · have hs := if_t cn hs
        have eo := (Option.some.inj hs).symm
        exact kk0 _ _ _ _ _ _ eo hI (lv_sub hl [2] rfl)
      · have hs := if_f cn hs
        refine lv_iload_n C.1 C.2.1 dX3_readTest_15 rfl (lv_at hl 2 rfl) ?_
        refine lv_if_eq (tgt := 65) C.1 C.2.1 dX3_readTest_16 (by decide) (fun cn => ?_) (fun cn => ?_)
        · have hs := if_t cn hs
          have eo := (Option.some.inj hs).symm
          exact kk0 _ _ _ _ _ _ eo hI (lv_sub hl [2] rfl)
        · have hs := if_f cn hs
          refine lv_aload_n C.1 C.2.1 dX3_readTest_19 rfl (lv_at hl 0 rfl) ?_
          refine cg_X3_84 C hI dX3_readTest_20 ?_
          refine lv_sipush (v := 260) C.1 C.2.1 dX3_readTest_23 (by decide) ?_
          refine lv_icmp_ne (tgt := 65) C.1 C.2.1 dX3_readTest_26 (by decide) (fun cn => ?_) (fun cn => ?_)
          · have hs := if_f cn hs
            have eo := (Option.some.inj hs).symm
            exact kk0 _ _ _ _ _ _ eo hI (lv_sub hl [2] rfl)
          · have hs := if_t cn hs
            refine lv_aload_n C.1 C.2.1 dX3_readTest_29 rfl (lv_at hl 0 rfl) ?_
            refine cg_X3_90 C hI dX3_readTest_30 ?_
            refine lv_topi (fun x4_33 ex4_33 => ?_)
            have hs := gv_at ex4_33 hs
            refine lv_istore (lv' := [(4, .int x4_33), (0, .ref (q 4)), (1, .int x1), (2, .int x2), (3, .int x3)]) C.1 C.2.1 dX3_readTest_33 hl (by decide) rfl (fun ls hl => ?_)
            refine lv_aload_n C.1 C.2.1 dX3_readTest_35 rfl (lv_at hl 1 rfl) ?_
            refine lv_sipush (v := 260) C.1 C.2.1 dX3_readTest_36 (by decide) ?_
            refine lv_iconst (v := 0) C.1 C.2.1 dX3_readTest_39 (by decide) ?_
            obtain ⟨⟨I, A⟩, hc, hs⟩ := bd_e hs
            refine C_call C hI (kX3_write l D cy P0 q z tl xx _ _ _ _ _ _ _ _ hc) (rv_X3 hI) ml_X3_109 im_X3_write se_X3_write ini_X3 co_X3_write hyX3_write rfl ⟨by omega, by decide⟩ hl.1 rfl (Nat.le_of_ble_eq_true rfl) dX3_readTest_40 (fun H locs hI => ?_)
            refine lv_aload_n C.1 C.2.1 dX3_readTest_43 rfl (lv_at hl 1 rfl) ?_
            obtain ⟨I, hc, hs⟩ := bd_e hs
            refine C_call C hI (kX3_advance l D cy P0 q z tl xx _ _ _ _ _ hc) (rv_X3 hI) ml_X3_54 im_X3_advance se_X3_advance ini_X3 co_X3_advance hyX3_advance rfl ⟨by omega, by decide⟩ hl.1 rfl (Nat.le_of_ble_eq_true rfl) dX3_readTest_44 (fun H locs hI => ?_)
            refine lv_aload_n C.1 C.2.1 dX3_readTest_47 rfl (lv_at hl 1 rfl) ?_
            refine lv_iload_n C.1 C.2.1 dX3_readTest_48 rfl (lv_at hl 2 rfl) ?_
            obtain ⟨⟨r_49, I, A⟩, hc, hs⟩ := bd_e hs
            refine C_call C hI (kX3_readBoth_F l D cy P0 q z tl xx ha hd hle hh rs rt hrs hrt _ _ _ _ _ _ _ _ hc) (rv_X3 hI) ml_X3_106 im_X3_readBoth se_X3_readBoth ini_X3 co_X3_readBoth hyX3_readBoth rfl ⟨by omega, by decide⟩ hl.1 rfl (Nat.le_of_ble_eq_true rfl) dX3_readTest_49 (fun H locs hI => ?_)
            refine lv_istore_n (lv' := [(2, .int r_49), (4, .int x4_33), (0, .ref (q 4)), (1, .int x1), (3, .int x3)]) C.1 C.2.1 dX3_readTest_52 rfl hl (by decide) rfl (fun ls hl => ?_)
            refine lv_aload_n C.1 C.2.1 dX3_readTest_53 rfl (lv_at hl 2 rfl) ?_
            refine lv_iload C.1 C.2.1 dX3_readTest_54 (lv_at hl 1 rfl) ?_
            obtain ⟨A, hc, hs⟩ := bd_e hs
            refine C_call C hI (kX3_land l D cy P0 q z tl xx _ _ _ _ _ _ hc) (rv_X3 hI) ml_X3_113 im_X3_land se_X3_land ini_X3 co_X3_land hyX3_land rfl ⟨by omega, by decide⟩ hl.1 rfl (Nat.le_of_ble_eq_true rfl) dX3_readTest_56 (fun H locs hI => ?_)
            obtain ⟨x3_59, ex3_59⟩ : ∃ y : Int32, y = (x3 + 1) := ⟨_, rfl⟩
            have hs := gv_at ex3_59 hs
            refine lv_iinc (v := x3_59) (lv' := [(3, .int x3_59), (2, .int r_49), (4, .int x4_33), (0, .ref (q 4)), (1, .int x1)]) C.1 C.2.1 dX3_readTest_59 hl (k := 4) rfl (by rw [ex3_59]; rfl) (by decide) rfl (fun ls hl => ?_)
            refine lv_goto (tgt := 8) C.1 C.2.1 dX3_readTest_62 (by decide) ?_
            exact ih _ _ _ _ _ _ _ _ _ _ _ _ hs hI (lv_sub hl [3, 4, 1, 0] rfl) kk0
  obtain ⟨⟨x2_8, I_L, A_L⟩, hL, hs⟩ := bd_e hs
  refine KL_8 FU _ _ _ _ _ _ _ _ _ _ _ _ hL hI (lv_sub hl [2, 3, 1, 0] rfl) (fun z0 z1 z2 H locs ls eo hI hl => ?_)
  obtain ⟨rfl, rfl, rfl⟩ := pr3 eo
  refine lv_iload_n C.1 C.2.1 dX3_readTest_65 rfl (lv_at hl 0 rfl) ?_
  obtain ⟨hb, hs⟩ := ck_e hs
  obtain ⟨rfl, rfl, rfl⟩ := so3 hs
  exact C_zret C hI hb dX3_readTest_66

def rX3 : Nat → (Int32 → (Nat → Int32) → (Nat → Int64) → (Nat → Nat → Int32) → (Nat → Nat → Int64) → Option (Int32 × (Nat → Int32) × (Nat → Nat → Int32))) × (Int32 → (Nat → Int32) → (Nat → Int64) → (Nat → Nat → Int32) → (Nat → Nat → Int64) → Option (Int32 × (Nat → Int32) × (Nat → Nat → Int32)))
  | 0 => (fun _ _ _ _ _ => none, fun _ _ _ _ _ => none)
  | d + 1 => (sX3_readSum_F (rX3 d).1 (rX3 d).2, sX3_readTest_F (rX3 d).1 (rX3 d).2)
def sX3_readSum (d : Nat) : Int32 → (Nat → Int32) → (Nat → Int64) → (Nat → Nat → Int32) → (Nat → Nat → Int64) → Option (Int32 × (Nat → Int32) × (Nat → Nat → Int32)) := (rX3 d).1
def sX3_readTest (d : Nat) : Int32 → (Nat → Int32) → (Nat → Int64) → (Nat → Nat → Int32) → (Nat → Nat → Int64) → Option (Int32 × (Nat → Int32) × (Nat → Nat → Int32)) := (rX3 d).2
theorem kX3_rd (l : Launch) (D : va_G) (cy : Nat → ClassId) (P0 : Nat → Prop) (q z : Nat → Nat) (tl : va_W) (xx : (Nat → Option Nat) × (Nat → Option Nat) × Nat) (d : Nat) : (∀ (z0 : Int32) (I : Nat → Int32) (J : Nat → Int64) (A : Nat → Nat → Int32) (B : Nat → Nat → Int64) (r : Int32) (I2 : Nat → Int32) (A2 : Nat → Nat → Int32), (rX3 d).1 z0 I J A B = some (r, I2, A2) → McC l yX3_readSum cX3_readSum 5 (some .boolean) (4 + 8 * d) [.ref (q 4), .int z0] D cy P0 q z tl (xx.1, xx.2.1, q 6) I J A B (some (.int r)) (xx.1, xx.2.1, q 6) I2 J A2 B) ∧ (∀ (z0 : Int32) (I : Nat → Int32) (J : Nat → Int64) (A : Nat → Nat → Int32) (B : Nat → Nat → Int64) (r : Int32) (I2 : Nat → Int32) (A2 : Nat → Nat → Int32), (rX3 d).2 z0 I J A B = some (r, I2, A2) → McC l yX3_readTest cX3_readTest 5 (some .boolean) (8 + 8 * d) [.ref (q 4), .int z0] D cy P0 q z tl (xx.1, xx.2.1, q 6) I J A B (some (.int r)) (xx.1, xx.2.1, q 6) I2 J A2 B) := by
  induction d with
  | zero => exact ⟨fun _ _ _ _ _ _ _ _  h => (by cases h), fun _ _ _ _ _ _ _ _  h => (by cases h)⟩
  | succ d ih =>
    have e1 : 4 + 8 * (d + 1) = (8 + 8 * d) + 4 := by omega
    have e2 : 8 + 8 * (d + 1) = (8 + 8 * d) + 8 := by omega
    rw [e1, e2]
    exact ⟨fun _ _ _ _ _ _ _ _  h => kX3_readSum_F l D cy P0 q z tl xx (4 + 8 * d) (8 + 8 * d) (by omega) (by omega) _ _ ih.1 ih.2 _ _ _ _ _ _ _ _ h, fun _ _ _ _ _ _ _ _  h => kX3_readTest_F l D cy P0 q z tl xx (4 + 8 * d) (8 + 8 * d) (by omega) (by omega) _ _ ih.1 ih.2 _ _ _ _ _ _ _ _ h⟩
theorem kX3_readSum (l : Launch) (D : va_G) (cy : Nat → ClassId) (P0 : Nat → Prop) (q z : Nat → Nat) (tl : va_W) (xx : (Nat → Option Nat) × (Nat → Option Nat) × Nat) (d : Nat) : (∀ (z0 : Int32) (I : Nat → Int32) (J : Nat → Int64) (A : Nat → Nat → Int32) (B : Nat → Nat → Int64) (r : Int32) (I2 : Nat → Int32) (A2 : Nat → Nat → Int32), sX3_readSum d z0 I J A B = some (r, I2, A2) → McC l yX3_readSum cX3_readSum 5 (some .boolean) (4 + 8 * d) [.ref (q 4), .int z0] D cy P0 q z tl (xx.1, xx.2.1, q 6) I J A B (some (.int r)) (xx.1, xx.2.1, q 6) I2 J A2 B) := (kX3_rd l D cy P0 q z tl xx d).1
theorem kX3_readTest (l : Launch) (D : va_G) (cy : Nat → ClassId) (P0 : Nat → Prop) (q z : Nat → Nat) (tl : va_W) (xx : (Nat → Option Nat) × (Nat → Option Nat) × Nat) (d : Nat) : (∀ (z0 : Int32) (I : Nat → Int32) (J : Nat → Int64) (A : Nat → Nat → Int32) (B : Nat → Nat → Int64) (r : Int32) (I2 : Nat → Int32) (A2 : Nat → Nat → Int32), sX3_readTest d z0 I J A B = some (r, I2, A2) → McC l yX3_readTest cX3_readTest 5 (some .boolean) (8 + 8 * d) [.ref (q 4), .int z0] D cy P0 q z tl (xx.1, xx.2.1, q 6) I J A B (some (.int r)) (xx.1, xx.2.1, q 6) I2 J A2 B) := (kX3_rd l D cy P0 q z tl xx d).2

def sX3_readClause (I : Nat → Int32) (J : Nat → Int64) (A : Nat → Nat → Int32) (B : Nat → Nat → Int64) : Option ((Int32) × (Nat → Int32) × (Nat → Nat → Int32)) :=
gv (I 84) fun x1_4 =>
gv (I 90) fun x2_9 =>
gv (fun (I : Nat → Int32) (A : Nat → Nat → Int32) =>
(sX3_advance  I J A B).bind fun I =>
gv (fun (I : Nat → Int32) (A : Nat → Nat → Int32) =>
gv (I 90) fun x3_58 =>
if (I 84) = (259 : Int32) then
((sX3_advance  I J A B).bind fun I =>
(sX3_readTest 10 (0 : Int32) I J A B).bind fun (r_75, I, A) =>
if r_75 = 0 then
(some ((0 : Int32), I, A))
else
(sX3_noteClause x1_4 x2_9 x3_58 I J A B).bind fun (I, A) =>
some ((1 : Int32), I, A))
else
(sX3_noteClause x1_4 x2_9 x3_58 I J A B).bind fun (I, A) =>
some ((1 : Int32), I, A)) fun k_54 =>
if x1_4 = (258 : Int32) then
(k_54 I A)
else
(sX3_readSum 10 (0 : Int32) I J A B).bind fun (r_46, I, A) =>
if r_46 = 0 then
(some ((0 : Int32), I, A))
else
k_54 I A) fun k_33 =>
if x1_4 = (256 : Int32) then
(k_33 I A)
else
if x1_4 = (257 : Int32) then
(k_33 I A)
else
if x1_4 = (258 : Int32) then
(k_33 I A)
else
some ((0 : Int32), I, A)
set_option maxRecDepth 100000 in
set_option maxHeartbeats 8000000 in
theorem kX3_readClause (l : Launch) (D : va_G) (cy : Nat → ClassId) (P0 : Nat → Prop) (q z : Nat → Nat) (tl : va_W) (xx : (Nat → Option Nat) × (Nat → Option Nat) × Nat) (I : Nat → Int32) (J : Nat → Int64) (A : Nat → Nat → Int32) (B : Nat → Nat → Int64) (r : Int32) (I2 : Nat → Int32) (A2 : Nat → Nat → Int32) (hs : sX3_readClause I J A B = some (r, I2, A2)) : McC l yX3_readClause cX3_readClause 4 (some .boolean) 89 [.ref (q 4)] D cy P0 q z tl (xx.1, xx.2.1, q 6) I J A B (some (.int r)) (xx.1, xx.2.1, q 6) I2 J A2 B := by
  refine C_start rfl (Nat.le_of_ble_eq_true rfl) ?_
  intro p e s m args below meth c H locs C hI ls hl
  have hl : lv_has ls 4 [(0, .ref (q 4))] := hl
  rw [sX3_readClause] at hs
  refine lv_aload_n C.1 C.2.1 dX3_readClause_0 rfl (lv_at hl 0 rfl) ?_
  refine cg_X3_84 C hI dX3_readClause_1 ?_
  refine lv_topi (fun x1_4 ex1_4 => ?_)
  have hs := gv_at ex1_4 hs
  refine lv_istore_n (lv' := [(1, .int x1_4), (0, .ref (q 4))]) C.1 C.2.1 dX3_readClause_4 rfl hl (by decide) rfl (fun ls hl => ?_)
  refine lv_aload_n C.1 C.2.1 dX3_readClause_5 rfl (lv_at hl 1 rfl) ?_
  refine cg_X3_90 C hI dX3_readClause_6 ?_
  refine lv_topi (fun x2_9 ex2_9 => ?_)
  have hs := gv_at ex2_9 hs
  refine lv_istore_n (lv' := [(2, .int x2_9), (1, .int x1_4), (0, .ref (q 4))]) C.1 C.2.1 dX3_readClause_9 rfl hl (by decide) rfl (fun ls hl => ?_)
  refine lv_iload_n C.1 C.2.1 dX3_readClause_10 rfl (lv_at hl 1 rfl) ?_
  refine lv_sipush (v := 256) C.1 C.2.1 dX3_readClause_11 (by decide) ?_
  obtain ⟨k_33, ek_33, hs⟩ := gv_ex hs
  have KJ_33 : ∀ (I : Nat → Int32) (A : Nat → Nat → Int32) (H : Heap) (locs : List Loc) (ls : Array Slot), k_33 I A = some (r, I2, A2) → CI D cy s P0 s.heap H locs q z tl (xx.1, xx.2.1, q 6) I J A B → lv_has ls 4 [(0, .ref (q 4)), (1, .int x1_4), (2, .int x2_9)] → W p l e (rmL 89) s m args below meth c H locs 0 0 (MQ below (cQ D cy P0 q tl (some (.int r)) (xx.1, xx.2.1, q 6) I2 J A2 B) args s 0 0 P0) (F0 m 33 ls []) := by
    intro I A H locs ls hs hI hl
    rw [ek_33] at hs
    refine lv_aload_n C.1 C.2.1 dX3_readClause_33 rfl (lv_at hl 0 rfl) ?_
    obtain ⟨I, hc, hs⟩ := bd_e hs
    refine C_call C hI (kX3_advance l D cy P0 q z tl xx _ _ _ _ _ hc) (rv_X3 hI) ml_X3_54 im_X3_advance se_X3_advance ini_X3 co_X3_advance hyX3_advance rfl ⟨by decide, by decide⟩ hl.1 rfl (Nat.le_of_ble_eq_true rfl) dX3_readClause_34 (fun H locs hI => ?_)
    refine lv_iload_n C.1 C.2.1 dX3_readClause_37 rfl (lv_at hl 1 rfl) ?_
    refine lv_sipush (v := 258) C.1 C.2.1 dX3_readClause_38 (by decide) ?_
    obtain ⟨k_54, ek_54, hs⟩ := gv_ex hs
    have KJ_54 : ∀ (I : Nat → Int32) (A : Nat → Nat → Int32) (H : Heap) (locs : List Loc) (ls : Array Slot), k_54 I A = some (r, I2, A2) → CI D cy s P0 s.heap H locs q z tl (xx.1, xx.2.1, q 6) I J A B → lv_has ls 4 [(0, .ref (q 4)), (1, .int x1_4), (2, .int x2_9)] → W p l e (rmL 89) s m args below meth c H locs 0 0 (MQ below (cQ D cy P0 q tl (some (.int r)) (xx.1, xx.2.1, q 6) I2 J A2 B) args s 0 0 P0) (F0 m 54 ls []) := by
      intro I A H locs ls hs hI hl
      rw [ek_54] at hs
      refine lv_aload_n C.1 C.2.1 dX3_readClause_54 rfl (lv_at hl 0 rfl) ?_
      refine cg_X3_90 C hI dX3_readClause_55 ?_
      refine lv_topi (fun x3_58 ex3_58 => ?_)
      have hs := gv_at ex3_58 hs
      refine lv_istore_n (lv' := [(3, .int x3_58), (0, .ref (q 4)), (1, .int x1_4), (2, .int x2_9)]) C.1 C.2.1 dX3_readClause_58 rfl hl (by decide) rfl (fun ls hl => ?_)
      refine lv_aload_n C.1 C.2.1 dX3_readClause_59 rfl (lv_at hl 1 rfl) ?_
      refine cg_X3_84 C hI dX3_readClause_60 ?_
      refine lv_sipush (v := 259) C.1 C.2.1 dX3_readClause_63 (by decide) ?_
      refine lv_icmp_ne (tgt := 83) C.1 C.2.1 dX3_readClause_66 (by decide) (fun cn => ?_) (fun cn => ?_)
      · have hs := if_f cn hs
        refine lv_aload_n C.1 C.2.1 dX3_readClause_83 rfl (lv_at hl 1 rfl) ?_
        refine lv_iload_n C.1 C.2.1 dX3_readClause_84 rfl (lv_at hl 2 rfl) ?_
        refine lv_iload_n C.1 C.2.1 dX3_readClause_85 rfl (lv_at hl 3 rfl) ?_
        refine lv_iload_n C.1 C.2.1 dX3_readClause_86 rfl (lv_at hl 0 rfl) ?_
        obtain ⟨⟨I, A⟩, hc, hs⟩ := bd_e hs
        refine C_call C hI (kX3_noteClause l D cy P0 q z tl xx _ _ _ _ _ _ _ _ _ hc) (rv_X3 hI) ml_X3_102 im_X3_noteClause se_X3_noteClause ini_X3 co_X3_noteClause hyX3_noteClause rfl ⟨by decide, by decide⟩ hl.1 rfl (Nat.le_of_ble_eq_true rfl) dX3_readClause_87 (fun H locs hI => ?_)
        refine lv_iconst (v := 1) C.1 C.2.1 dX3_readClause_90 (by decide) ?_
        obtain ⟨rfl, rfl, rfl⟩ := so3 hs
        exact C_zret C hI (by decide) dX3_readClause_91
      · have hs := if_t cn hs
        refine lv_aload_n C.1 C.2.1 dX3_readClause_69 rfl (lv_at hl 1 rfl) ?_
        obtain ⟨I, hc, hs⟩ := bd_e hs
        refine C_call C hI (kX3_advance l D cy P0 q z tl xx _ _ _ _ _ hc) (rv_X3 hI) ml_X3_54 im_X3_advance se_X3_advance ini_X3 co_X3_advance hyX3_advance rfl ⟨by decide, by decide⟩ hl.1 rfl (Nat.le_of_ble_eq_true rfl) dX3_readClause_70 (fun H locs hI => ?_)
        refine lv_aload_n C.1 C.2.1 dX3_readClause_73 rfl (lv_at hl 1 rfl) ?_
        refine lv_iconst (v := 0) C.1 C.2.1 dX3_readClause_74 (by decide) ?_
        obtain ⟨⟨r_75, I, A⟩, hc, hs⟩ := bd_e hs
        refine C_call C hI (kX3_readTest l D cy P0 q z tl xx 10 _ _ _ _ _ _ _ _ hc) (rv_X3 hI) ml_X3_99 im_X3_readTest se_X3_readTest ini_X3 co_X3_readTest hyX3_readTest rfl ⟨by decide, by decide⟩ hl.1 rfl (Nat.le_of_ble_eq_true rfl) dX3_readClause_75 (fun H locs hI => ?_)
        refine lv_if_ne (tgt := 83) C.1 C.2.1 dX3_readClause_78 (by decide) (fun cn => ?_) (fun cn => ?_)
        · have hs := if_f cn hs
          refine lv_aload_n C.1 C.2.1 dX3_readClause_83 rfl (lv_at hl 1 rfl) ?_
          refine lv_iload_n C.1 C.2.1 dX3_readClause_84 rfl (lv_at hl 2 rfl) ?_
          refine lv_iload_n C.1 C.2.1 dX3_readClause_85 rfl (lv_at hl 3 rfl) ?_
          refine lv_iload_n C.1 C.2.1 dX3_readClause_86 rfl (lv_at hl 0 rfl) ?_
          obtain ⟨⟨I, A⟩, hc, hs⟩ := bd_e hs
          refine C_call C hI (kX3_noteClause l D cy P0 q z tl xx _ _ _ _ _ _ _ _ _ hc) (rv_X3 hI) ml_X3_102 im_X3_noteClause se_X3_noteClause ini_X3 co_X3_noteClause hyX3_noteClause rfl ⟨by decide, by decide⟩ hl.1 rfl (Nat.le_of_ble_eq_true rfl) dX3_readClause_87 (fun H locs hI => ?_)
          refine lv_iconst (v := 1) C.1 C.2.1 dX3_readClause_90 (by decide) ?_
          obtain ⟨rfl, rfl, rfl⟩ := so3 hs
          exact C_zret C hI (by decide) dX3_readClause_91
        · have hs := if_t cn hs
          refine lv_iconst (v := 0) C.1 C.2.1 dX3_readClause_81 (by decide) ?_
          obtain ⟨rfl, rfl, rfl⟩ := so3 hs
          exact C_zret C hI (by decide) dX3_readClause_82
    refine lv_icmp_eq (tgt := 54) C.1 C.2.1 dX3_readClause_41 (by decide) (fun cn => ?_) (fun cn => ?_)
    · have hs := if_t cn hs
      exact KJ_54 _ _ _ _ _ hs hI (lv_sub hl [0, 1, 2] rfl)
    · have hs := if_f cn hs
      refine lv_aload_n C.1 C.2.1 dX3_readClause_44 rfl (lv_at hl 0 rfl) ?_
      refine lv_iconst (v := 0) C.1 C.2.1 dX3_readClause_45 (by decide) ?_
      obtain ⟨⟨r_46, I, A⟩, hc, hs⟩ := bd_e hs
      refine C_call C hI (kX3_readSum l D cy P0 q z tl xx 10 _ _ _ _ _ _ _ _ hc) (rv_X3 hI) ml_X3_96 im_X3_readSum se_X3_readSum ini_X3 co_X3_readSum hyX3_readSum rfl ⟨by decide, by decide⟩ hl.1 rfl (Nat.le_of_ble_eq_true rfl) dX3_readClause_46 (fun H locs hI => ?_)
      refine lv_if_ne (tgt := 54) C.1 C.2.1 dX3_readClause_49 (by decide) (fun cn => ?_) (fun cn => ?_)
      · have hs := if_f cn hs
        exact KJ_54 _ _ _ _ _ hs hI (lv_sub hl [0, 1, 2] rfl)
      · have hs := if_t cn hs
        refine lv_iconst (v := 0) C.1 C.2.1 dX3_readClause_52 (by decide) ?_
        obtain ⟨rfl, rfl, rfl⟩ := so3 hs
        exact C_zret C hI (by decide) dX3_readClause_53
  refine lv_icmp_eq (tgt := 33) C.1 C.2.1 dX3_readClause_14 (by decide) (fun cn => ?_) (fun cn => ?_)
  · have hs := if_t cn hs
    exact KJ_33 _ _ _ _ _ hs hI (lv_sub hl [2, 1, 0] rfl)
  · have hs := if_f cn hs
    refine lv_iload_n C.1 C.2.1 dX3_readClause_17 rfl (lv_at hl 1 rfl) ?_
    refine lv_sipush (v := 257) C.1 C.2.1 dX3_readClause_18 (by decide) ?_
    refine lv_icmp_eq (tgt := 33) C.1 C.2.1 dX3_readClause_21 (by decide) (fun cn => ?_) (fun cn => ?_)
    · have hs := if_t cn hs
      exact KJ_33 _ _ _ _ _ hs hI (lv_sub hl [2, 1, 0] rfl)
    · have hs := if_f cn hs
      refine lv_iload_n C.1 C.2.1 dX3_readClause_24 rfl (lv_at hl 1 rfl) ?_
      refine lv_sipush (v := 258) C.1 C.2.1 dX3_readClause_25 (by decide) ?_
      refine lv_icmp_eq (tgt := 33) C.1 C.2.1 dX3_readClause_28 (by decide) (fun cn => ?_) (fun cn => ?_)
      · have hs := if_t cn hs
        exact KJ_33 _ _ _ _ _ hs hI (lv_sub hl [2, 1, 0] rfl)
      · have hs := if_f cn hs
        refine lv_iconst (v := 0) C.1 C.2.1 dX3_readClause_31 (by decide) ?_
        obtain ⟨rfl, rfl, rfl⟩ := so3 hs
        exact C_zret C hI (by decide) dX3_readClause_32
