def qiF (a b1 b2 b3 b4 b5 b6 b7 b8 b9 b10 b11 b12 b13 b14 b15 b16 b17 b18 : Nat) : Nat → Nat := fun k => match k with
  | 0 => a
  | 10 => b1
  | 11 => b2
  | 12 => b3
  | 13 => b4
  | 14 => b5
  | 15 => b6
  | 16 => b7
  | 17 => b8
  | 31 => b9
  | 18 => b10
  | 34 => b11
  | 19 => b12
  | 37 => b13
  | 20 => b14
  | 40 => b15
  | 21 => b16
  | 43 => b17
  | 22 => b18
  | _ => 0

/-- a new state's numbers and rows -/
def SI0 : Nat → Int32 := fun k => match k with
  | 30 => 3
  | 33 => 6
  | 36 => 3
  | 39 => 42
  | 42 => 5
  | _ => 0
def SA0 : Nat → Nat → Int32 := fun k => match k with
  | 10 => fillA 48 5 (fun _ => 0)
  | 13 => fillA 6 10 (fun _ => 0)
  | 15 => va_cpy sv_2 (fun _ => 0) (ix 0) (ix 0) (ix 9)
  | 16 => fillA 64 10000 (fun _ => 0)
  | _ => fun _ => 0
theorem mrgI_self (I : Nat → Int32) : mrgI I I = I := by funext k; simp [mrgI]
theorem mrgA_self (A : Nat → Nat → Int32) : mrgA A A = A := by funext k; simp [mrgA]
section IMG
variable {p : Program} {l : Launch} {e : Env} {s : State} {m : MethodId} {args : Array Value} {below : List Frame} {meth : Method} {c : Code} {H : Heap} {locs : List Loc} {cells slots nL : Nat} {Q : State → Prop} {cc : ByteArray} {pc : Nat} {ls : Array Slot} {rest : List Value} {ret : Option FieldType} {R : Room}
variable {D : va_G} {cy : Nat → ClassId} {P0 : Nat → Prop} {q qi z q1 q2 : Nat → Nat} {tl : va_W} {xx : (Nat → Option Nat) × (Nat → Option Nat) × Nat} {I Ii I1 I2 : Nat → Int32} {J : Nat → Int64} {A Ai A1 A2 : Nat → Nat → Int32} {B : Nat → Nat → Int64} {txi tx1 tx2 : Nat → Option Nat}
/-- a call of a state's become by the class -/
theorem w_bec4 (C : Cx p s m args meth c cc nL RX7 ret) (hK : va_K D vwCl (tys6 cy) s) (hP : va_P D vwCl (SW cy q1 tx1 I1 A1 ++ (SW cy q2 tx2 I2 A2 ++ tl)) H) (hD : va_D P0 (SW cy q1 tx1 I1 A1 ++ (SW cy q2 tx2 I2 A2 ++ tl))) (hS : va_S P0 s.heap H locs) (hok : bcOK I2 = true) (htx : ∀ i v, i < 8 → tx2 i = some v → ∃ vs, (v, (.inr (6, vs) : va_E)) ∈ tl) (hR : 3 ≤ R.frames ∧ 142 ≤ R.locals ∧ cells ≤ R.cells ∧ slots ≤ R.slots) (hsz : ls.size = nL) (hW : (rest.map fun v => v.category).sum ≤ 8) (hd : decode cc pc = .ok (.invokevirtual 313, 3))
    (kk : ∀ (H1 : Heap) (locs1 : List Loc), va_P D vwCl (SW cy q1 (bcT 8 tx1 tx2) (bcI I1 I2) (bcA A1 A2 I2) ++ (SW cy q2 tx2 I2 A2 ++ tl)) H1 → va_D P0 (SW cy q1 (bcT 8 tx1 tx2) (bcI I1 I2) (bcA A1 A2 I2) ++ (SW cy q2 tx2 I2 A2 ++ tl)) → va_S P0 s.heap H1 locs1 → W p l e R s m args below meth c H1 locs1 cells slots Q (F0 m (pc + 3) ls rest)) :
    W p l e R s m args below meth c H locs cells slots Q (F0 m pc ls (.ref (q2 0) :: .ref (q1 0) :: rest)) := by
  have hrv : ∃ cell : Cell, H[q1 0]? = some cell ∧ cell.vm.isStatics = false ∧ s.vm.findClass RX4 = some cell.cls := va_recv hK hP (ci := 4) (q0 := 0) rfl rfl
  have hr := run_V (l := l) (e := e) (below := below) (H := H) (locs := locs) (cells := cells) (slots := slots) (R := R) (rm := rmL 2) (C := RX4) (b := q1 0) (As := [.ref (q2 0)]) (rest := rest) C (kX4_become l D cy P0 q1 q2 tl tx1 tx2 I1 I2 A1 A2 hok htx) (wt_callB (rm := rmL 2) C ml_X7_313 ini_X4 co_X4_become rfl rfl hyX4_become ⟨hR.1, hR.2.1⟩) im_X4_become se_X4_become
    ⟨fun a U g mk z => by
      obtain ⟨z0, z1, z2, z3⟩ := z
      exact ⟨z0, va_K.moved (u := U) (U := U.calling g mk a) (Vm.Alike.refl U.vm) z1, z2, z3⟩, hrv, fun U hU hW => ⟨rfl, va_K.moved hW.alike hK, by rw [hU]; exact hP, hD⟩⟩ rfl hsz rfl hW hd ⟨hR.2.2.1, hR.2.2.2⟩
  intro T hT X
  obtain ⟨v, st₀, t, T', L, h0, X', hL, e1, e2, ⟨⟨hv, hP1, hD1⟩, hz, hk⟩, st⟩ := hr T hT X
  cases hv
  rw [h0] at hz hk
  obtain ⟨t2, x1, x2⟩ := kk T'.heap (locs ++ L) (by rw [e1]; exact hP1) hD1 ⟨Nat.le_trans hS.1 (by rw [e1]; exact hz), fun x h1 h2 => by rw [e1, hk x (Nat.lt_of_lt_of_le h1 hS.1) h2]; exact hS.2.1 x h1 h2, fun x hx => by
      rcases List.mem_append.mp hx with h | h
      · exact hS.2.2 x h
      · exact hL x h⟩ T' rfl X'
  exact ⟨t2, st t2 x1, x2⟩
/-- image's end: the image becomes what is now -/
theorem im_end {x1 : Int32} (C : Cx p s m args meth c cX7_image 3 RX7 (some .int)) (hI : CI D cy s P0 s.heap H locs q z (SW cy qi txi Ii Ai ++ tl) xx I J A B) (hok : bcOK I = true) (htx : ∀ i v, i < 8 → xx.1 i = some v → ∃ vs, (v, (.inr (6, vs) : va_E)) ∈ tl) (hR : 3 ≤ R.frames ∧ 142 ≤ R.locals ∧ cells ≤ R.cells ∧ slots ≤ R.slots) (hl : lv_has ls 3 [(2, .ref (qi 0)), (0, .ref (q 99)), (1, .int x1)])
    (kk : ∀ (H1 : Heap) (locs1 : List Loc), CI D cy s P0 s.heap H1 locs1 q z (SW cy qi (bcT 8 txi xx.1) (bcI Ii I) (bcA Ai A I) ++ tl) xx (upd I 9 0) J A B → W p l e R s m args below meth c H1 locs1 cells slots Q (F0 m 54 ls [.int 0])) :
    W p l e R s m args below meth c H locs cells slots Q (F0 m 41 ls []) := by
  refine lv_aload_n C.1 C.2.1 dX7_image_41 rfl (lv_at hl 0 rfl) ?_
  refine lv_aload_n C.1 C.2.1 dX7_image_42 rfl (lv_at hl 1 rfl) ?_
  refine cg_X7_0 C hI dX7_image_43 ?_
  obtain ⟨hK, hP, hD, hS, hSF⟩ := hI
  have hP := vaP_swap (a := []) (b := SW cy q xx.1 I A) (c := SW cy qi txi Ii Ai) (d := CR cy q xx I J A B ++ tl) (vaP_swap (a := SW cy q xx.1 I A) (b := CR cy q xx I J A B) (c := SW cy qi txi Ii Ai) (d := tl) (cw_splitP hP))
  have hD := vaD_swap (a := []) (b := SW cy q xx.1 I A) (c := SW cy qi txi Ii Ai) (d := CR cy q xx I J A B ++ tl) (vaD_swap (a := SW cy q xx.1 I A) (b := CR cy q xx I J A B) (c := SW cy qi txi Ii Ai) (d := tl) (cw_splitD hD))
  refine w_bec4 (q1 := qi) (q2 := q) (tx1 := txi) (tx2 := xx.1) (I1 := Ii) (I2 := I) (A1 := Ai) (A2 := A) (tl := CR cy q xx I J A B ++ tl) C hK hP hD hS hok (fun i v h1 h2 => by obtain ⟨vs, hm⟩ := htx i v h1 h2; exact ⟨vs, List.mem_append_right _ hm⟩) hR hl.1 (Nat.le_of_ble_eq_true rfl) dX7_image_46 (fun H locs hP hD hS => ?_)
  have hP := cw_joinP (vaP_swap (a := SW cy q xx.1 I A) (b := SW cy qi (bcT 8 txi xx.1) (bcI Ii I) (bcA Ai A I)) (c := CR cy q xx I J A B) (d := tl) (vaP_swap (a := []) (b := SW cy qi (bcT 8 txi xx.1) (bcI Ii I) (bcA Ai A I)) (c := SW cy q xx.1 I A) (d := CR cy q xx I J A B ++ tl) hP))
  have hD := cw_joinD (vaD_swap (a := SW cy q xx.1 I A) (b := SW cy qi (bcT 8 txi xx.1) (bcI Ii I) (bcA Ai A I)) (c := CR cy q xx I J A B) (d := tl) (vaD_swap (a := []) (b := SW cy qi (bcT 8 txi xx.1) (bcI Ii I) (bcA Ai A I)) (c := SW cy q xx.1 I A) (d := CR cy q xx I J A B ++ tl) hD))
  rw [mrgI_self, mrgA_self] at hP hD
  have hI : CI D cy s P0 s.heap H locs q z (SW cy qi (bcT 8 txi xx.1) (bcI Ii I) (bcA Ai A I) ++ tl) xx I J A B := ⟨hK, hP, hD, hS, hSF⟩
  refine lv_aload_n C.1 C.2.1 dX7_image_49 rfl (lv_at hl 1 rfl) ?_
  refine lv_iconst (v := 0) C.1 C.2.1 dX7_image_50 (by decide) ?_
  refine C_callR C hI (kX7_accept l D cy P0 q z _ _ _ _ _ _ _ _ _ rfl) (rv_X7 hI) ml_X7_77 im_X7_accept se_X7_accept ini_X7 co_X7_accept hyX7_accept rfl ⟨by have := hR.1; omega, by have := hR.2.1; omega, hR.2.2.1, hR.2.2.2⟩ hl.1 rfl (Nat.le_of_ble_eq_true rfl) dX7_image_51 (fun H locs hI => ?_)
  exact kk H locs hI
end IMG
theorem wi_1 {x1 : Int32} (h : inB x1 2 = true) : sX7_isWithin x1 0 1 = some 1 := by
  obtain ⟨h0, h1⟩ : (0 : Int32) ≤ x1 ∧ ix x1 < 2 := by simpa [inB] using h
  have e0 : ¬ x1 < 0 := Int32.not_lt.mpr h0
  have e1 : ¬ (1 : Int32) < x1 := by
    intro hh
    have := Int32.lt_iff_toInt_lt.mp hh
    have h2 := Int32.le_iff_toInt_le.mp h0
    simp only [ix, Int32.toNatClampNeg] at h1
    have e3 : (1 : Int32).toInt = 1 := by decide
    omega
  rw [sX7_isWithin, if_neg e0, if_neg e1]; rfl
section KIB
variable (l : Launch) (D : va_G) (cy : Nat → ClassId) (P0 : Nat → Prop) (q z : Nat → Nat) (tl : va_W) (xx : (Nat → Option Nat) × (Nat → Option Nat) × Nat) (x1 : Int32) (I : Nat → Int32) (J : Nat → Int64) (A : Nat → Nat → Int32) (B : Nat → Nat → Int64)
/-- image and back out of range -/
theorem kX7_imageO (hw : sX7_isWithin x1 0 1 = some 0) : McC l yX7_image cX7_image 3 (some .int) 3 [.ref (q 99), .int x1] D cy P0 q z tl xx I J A B (some (.int (-1))) xx (upd I 9 (-1)) J A B := by
  refine C_start rfl (Nat.le_of_ble_eq_true rfl) ?_
  intro p e s m args below meth c H locs C hI ls hl
  have hl : lv_has ls 3 [(0, .ref (q 99)), (1, .int x1)] := hl
  refine lv_iload_n C.1 C.2.1 dX7_image_0 rfl (lv_at hl 1 rfl) ?_
  refine lv_iconst (v := 0) C.1 C.2.1 dX7_image_1 (by decide) ?_
  refine lv_iconst (v := 1) C.1 C.2.1 dX7_image_2 (by decide) ?_
  refine S_call (h := 3) C (kX7_isWithin l _ _ _ _ hw) ml_X7_80 st_X7_isWithin ini_X7 co_X7_isWithin hyX7_isWithin rfl ⟨by decide, by decide⟩ hl.1 rfl (Nat.le_of_ble_eq_true rfl) dX7_image_3 ⟨Nat.zero_le _, Nat.zero_le _, Nat.le_refl _, Nat.le_refl _⟩ ?_
  refine lv_if_ne (tgt := 15) C.1 C.2.1 dX7_image_6 (by decide) (fun cn => absurd rfl cn) (fun cn => ?_)
  refine lv_aload_n C.1 C.2.1 dX7_image_9 rfl (lv_at hl 0 rfl) ?_
  refine lv_iconst (v := -1) C.1 C.2.1 dX7_image_10 (by decide) ?_
  refine C_callR C hI (kX7_refuse l D cy P0 q z _ _ _ _ _ _ _ _ _ rfl) (rv_X7 hI) ml_X7_70 im_X7_refuse se_X7_refuse ini_X7 co_X7_refuse hyX7_refuse rfl ⟨by decide, by decide, Nat.le_refl 0, Nat.le_refl 0⟩ hl.1 rfl (Nat.le_of_ble_eq_true rfl) dX7_image_11 (fun H locs hI => ?_)
  exact C_iret C hI dX7_image_14
theorem kX7_backO (hw : sX7_isWithin x1 0 1 = some 0) : McC l yX7_back cX7_back 3 (some .int) 3 [.ref (q 99), .int x1] D cy P0 q z tl xx I J A B (some (.int (-1))) xx (upd I 9 (-1)) J A B := by
  refine C_start rfl (Nat.le_of_ble_eq_true rfl) ?_
  intro p e s m args below meth c H locs C hI ls hl
  have hl : lv_has ls 3 [(0, .ref (q 99)), (1, .int x1)] := hl
  refine lv_iload_n C.1 C.2.1 dX7_back_0 rfl (lv_at hl 1 rfl) ?_
  refine lv_iconst (v := 0) C.1 C.2.1 dX7_back_1 (by decide) ?_
  refine lv_iconst (v := 1) C.1 C.2.1 dX7_back_2 (by decide) ?_
  refine S_call (h := 3) C (kX7_isWithin l _ _ _ _ hw) ml_X7_80 st_X7_isWithin ini_X7 co_X7_isWithin hyX7_isWithin rfl ⟨by decide, by decide⟩ hl.1 rfl (Nat.le_of_ble_eq_true rfl) dX7_back_3 ⟨Nat.zero_le _, Nat.zero_le _, Nat.le_refl _, Nat.le_refl _⟩ ?_
  refine lv_if_ne (tgt := 15) C.1 C.2.1 dX7_back_6 (by decide) (fun cn => absurd rfl cn) (fun cn => ?_)
  refine lv_aload_n C.1 C.2.1 dX7_back_9 rfl (lv_at hl 0 rfl) ?_
  refine lv_iconst (v := -1) C.1 C.2.1 dX7_back_10 (by decide) ?_
  refine C_callR C hI (kX7_refuse l D cy P0 q z _ _ _ _ _ _ _ _ _ rfl) (rv_X7 hI) ml_X7_70 im_X7_refuse se_X7_refuse ini_X7 co_X7_refuse hyX7_refuse rfl ⟨by decide, by decide, Nat.le_refl 0, Nat.le_refl 0⟩ hl.1 rfl (Nat.le_of_ble_eq_true rfl) dX7_back_11 (fun H locs hI => ?_)
  exact C_iret C hI dX7_back_14
/-- back to no image -/
theorem kX7_backN (hk : inB x1 2 = true) (hx : xx.2.1 (ix x1) = none) : McC l yX7_back cX7_back 3 (some .int) 3 [.ref (q 99), .int x1] D cy P0 q z tl xx I J A B (some (.int (-2))) xx (upd I 9 (-2)) J A B := by
  have hw := wi_1 hk
  refine C_start rfl (Nat.le_of_ble_eq_true rfl) ?_
  intro p e s m args below meth c H locs C hI ls hl
  have hl : lv_has ls 3 [(0, .ref (q 99)), (1, .int x1)] := hl
  refine lv_iload_n C.1 C.2.1 dX7_back_0 rfl (lv_at hl 1 rfl) ?_
  refine lv_iconst (v := 0) C.1 C.2.1 dX7_back_1 (by decide) ?_
  refine lv_iconst (v := 1) C.1 C.2.1 dX7_back_2 (by decide) ?_
  refine S_call (h := 3) C (kX7_isWithin l _ _ _ _ hw) ml_X7_80 st_X7_isWithin ini_X7 co_X7_isWithin hyX7_isWithin rfl ⟨by decide, by decide⟩ hl.1 rfl (Nat.le_of_ble_eq_true rfl) dX7_back_3 ⟨Nat.zero_le _, Nat.zero_le _, Nat.le_refl _, Nat.le_refl _⟩ ?_
  refine lv_if_ne (tgt := 15) C.1 C.2.1 dX7_back_6 (by decide) (fun cn => ?_) (fun cn => absurd cn (by decide))
  refine lv_aload_n C.1 C.2.1 dX7_back_15 rfl (lv_at hl 0 rfl) ?_
  refine cg_X7_1 C hI dX7_back_16 ?_
  refine lv_iload_n C.1 C.2.1 dX7_back_19 rfl (lv_at hl 1 rfl) ?_
  refine va_aldq (D := D) (C := "CornerWinds$State") C.1 C.2.1 hI.1 hI.2.1 11 4 rfl rfl (inB_in hk) dX7_back_20 ?_
  rw [show x1.toNatClampNeg = ix x1 from rfl]
  rw [hx]
  refine lv_astore_nN (lv' := [(2, .null), (0, .ref (q 99)), (1, .int x1)]) C.1 C.2.1 dX7_back_21 rfl hl (by decide) rfl (fun ls hl => ?_)
  refine lv_aload_nN C.1 C.2.1 dX7_back_22 rfl (lv_at hl 0 rfl) ?_
  refine lv_ifnonnullN C.1 C.2.1 dX7_back_23 ?_
  refine lv_aload_n C.1 C.2.1 dX7_back_26 rfl (lv_at hl 1 rfl) ?_
  refine lv_bipush (v := -2) C.1 C.2.1 dX7_back_27 (by decide) ?_
  refine C_callR C hI (kX7_refuse l D cy P0 q z _ _ _ _ _ _ _ _ _ rfl) (rv_X7 hI) ml_X7_70 im_X7_refuse se_X7_refuse ini_X7 co_X7_refuse hyX7_refuse rfl ⟨by decide, by decide, Nat.le_refl 0, Nat.le_refl 0⟩ hl.1 rfl (Nat.le_of_ble_eq_true rfl) dX7_back_29 (fun H locs hI => ?_)
  exact C_iret C hI dX7_back_32
set_option maxRecDepth 100000 in
set_option maxHeartbeats 8000000 in
/-- back to an image -/
theorem kX7_backS (qi : Nat → Nat) (txi : Nat → Option Nat) (Ii : Nat → Int32) (Ai : Nat → Nat → Int32) (hk : inB x1 2 = true) (hx : xx.2.1 (ix x1) = some (qi 0)) (hok : bcOK Ii = true) (htx : ∀ i v, i < 8 → txi i = some v → ∃ vs, (v, (.inr (6, vs) : va_E)) ∈ tl) : McC l yX7_back cX7_back 3 (some .int) 3 [.ref (q 99), .int x1] D cy P0 q z (SW cy qi txi Ii Ai ++ tl) xx I J A B (some (.int 0)) (bcT 8 xx.1 txi, xx.2) (upd (mrgI (bcI I Ii) I) 9 0) J (mrgA (bcA A Ai Ii) A) B := by
  have hw := wi_1 hk
  refine C_start rfl (Nat.le_of_ble_eq_true rfl) ?_
  intro p e s m args below meth c H locs C hI ls hl
  have hl : lv_has ls 3 [(0, .ref (q 99)), (1, .int x1)] := hl
  refine lv_iload_n C.1 C.2.1 dX7_back_0 rfl (lv_at hl 1 rfl) ?_
  refine lv_iconst (v := 0) C.1 C.2.1 dX7_back_1 (by decide) ?_
  refine lv_iconst (v := 1) C.1 C.2.1 dX7_back_2 (by decide) ?_
  refine S_call (h := 3) C (kX7_isWithin l _ _ _ _ hw) ml_X7_80 st_X7_isWithin ini_X7 co_X7_isWithin hyX7_isWithin rfl ⟨by decide, by decide⟩ hl.1 rfl (Nat.le_of_ble_eq_true rfl) dX7_back_3 ⟨Nat.zero_le _, Nat.zero_le _, Nat.le_refl _, Nat.le_refl _⟩ ?_
  refine lv_if_ne (tgt := 15) C.1 C.2.1 dX7_back_6 (by decide) (fun cn => ?_) (fun cn => absurd cn (by decide))
  refine lv_aload_n C.1 C.2.1 dX7_back_15 rfl (lv_at hl 0 rfl) ?_
  refine cg_X7_1 C hI dX7_back_16 ?_
  refine lv_iload_n C.1 C.2.1 dX7_back_19 rfl (lv_at hl 1 rfl) ?_
  refine va_aldq (D := D) (C := "CornerWinds$State") C.1 C.2.1 hI.1 hI.2.1 11 4 rfl rfl (inB_in hk) dX7_back_20 ?_
  rw [show x1.toNatClampNeg = ix x1 from rfl]
  rw [hx]
  refine lv_astore_n (lv' := [(2, .ref (qi 0)), (0, .ref (q 99)), (1, .int x1)]) C.1 C.2.1 dX7_back_21 rfl hl (by decide) rfl (fun ls hl => ?_)
  refine lv_aload_n C.1 C.2.1 dX7_back_22 rfl (lv_at hl 0 rfl) ?_
  refine lv_ifnonnull (tgt := 33) C.1 C.2.1 dX7_back_23 (by decide) ?_
  refine lv_aload_n C.1 C.2.1 dX7_back_33 rfl (lv_at hl 1 rfl) ?_
  refine cg_X7_0 C hI dX7_back_34 ?_
  refine lv_aload_n C.1 C.2.1 dX7_back_37 rfl (lv_at hl 0 rfl) ?_
  obtain ⟨hK, hP, hD, hS, hSF⟩ := hI
  have hP := vaP_swap (a := SW cy q xx.1 I A) (b := CR cy q xx I J A B) (c := SW cy qi txi Ii Ai) (d := tl) (cw_splitP hP)
  have hD := vaD_swap (a := SW cy q xx.1 I A) (b := CR cy q xx I J A B) (c := SW cy qi txi Ii Ai) (d := tl) (cw_splitD hD)
  refine w_bec4 (q1 := q) (q2 := qi) (tx1 := xx.1) (tx2 := txi) (I1 := I) (I2 := Ii) (A1 := A) (A2 := Ai) (tl := CR cy q xx I J A B ++ tl) C hK hP hD hS hok (fun i v h1 h2 => by obtain ⟨vs, hm⟩ := htx i v h1 h2; exact ⟨vs, List.mem_append_right _ hm⟩) ⟨by decide, by decide, Nat.le_refl 0, Nat.le_refl 0⟩ hl.1 (Nat.le_of_ble_eq_true rfl) dX7_back_38 (fun H locs hP hD hS => ?_)
  have hP := cw_joinP (vaP_swap (a := SW cy q (bcT 8 xx.1 txi) (bcI I Ii) (bcA A Ai Ii)) (b := SW cy qi txi Ii Ai) (c := CR cy q xx I J A B) (d := tl) hP)
  have hD := cw_joinD (vaD_swap (a := SW cy q (bcT 8 xx.1 txi) (bcI I Ii) (bcA A Ai Ii)) (b := SW cy qi txi Ii Ai) (c := CR cy q xx I J A B) (d := tl) hD)
  have hI : CI D cy s P0 s.heap H locs q z (SW cy qi txi Ii Ai ++ tl) (bcT 8 xx.1 txi, xx.2) (mrgI (bcI I Ii) I) J (mrgA (bcA A Ai Ii) A) B := ⟨hK, hP, hD, hS, hSF⟩
  refine lv_aload_n C.1 C.2.1 dX7_back_41 rfl (lv_at hl 1 rfl) ?_
  refine lv_iconst (v := 0) C.1 C.2.1 dX7_back_42 (by decide) ?_
  refine C_callR C hI (kX7_accept l D cy P0 q z _ _ _ _ _ _ _ _ _ rfl) (rv_X7 hI) ml_X7_77 im_X7_accept se_X7_accept ini_X7 co_X7_accept hyX7_accept rfl ⟨by decide, by decide, Nat.le_refl 0, Nat.le_refl 0⟩ hl.1 rfl (Nat.le_of_ble_eq_true rfl) dX7_back_43 (fun H locs hI => ?_)
  exact C_iret C hI dX7_back_46
set_option maxRecDepth 100000 in
set_option maxHeartbeats 8000000 in
/-- image over an image -/
theorem kX7_imageS (qi : Nat → Nat) (txi : Nat → Option Nat) (Ii : Nat → Int32) (Ai : Nat → Nat → Int32) (hk : inB x1 2 = true) (hx : xx.2.1 (ix x1) = some (qi 0)) (hok : bcOK I = true) (htx : ∀ i v, i < 8 → xx.1 i = some v → ∃ vs, (v, (.inr (6, vs) : va_E)) ∈ tl) :
    Met l yX7_image (Cond.code yX7_image cX7_image 3 (some .int) :: WT) (rmL 3) (va_Pc [.ref (q 99), .int x1] (fun U => va_K D vwCl (tys6 cy) U ∧ va_P D vwCl (CW cy q xx I J A B ++ (SW cy qi txi Ii Ai ++ tl)) U.heap ∧ va_D P0 (CW cy q xx I J A B ++ (SW cy qi txi Ii Ai ++ tl)) ∧ SF P0 U U.heap z))
      (fun _ st oc t => (oc = .returned (some (.int 0)) ∧ va_P D vwCl (CW cy q xx (upd I 9 0) J A B ++ (SW cy qi (bcT 8 txi xx.1) (bcI Ii I) (bcA Ai A I) ++ tl)) t.heap ∧ va_D P0 (CW cy q xx (upd I 9 0) J A B ++ (SW cy qi (bcT 8 txi xx.1) (bcI Ii I) (bcA Ai A I) ++ tl))) ∧ va_F P0 st t) 0 0 P0 := by
  have hw := wi_1 hk
  refine Met.ofW (cc := cX7_image) (maxL := 3) (ret := some .int) rfl rfl ?_
  intro p e s m args below meth c s₁ B0 hml hv
  obtain ⟨rfl, hK, hP, hD, hSF⟩ := hv
  have hts := atoms_spec (ws := Cond.code yX7_image cX7_image 3 (some .int) :: WT) B0.pre
  have C : Cx p s m [Value.ref (q 99), Value.int x1].toArray meth c cX7_image 3 RX7 (some .int) := ⟨B0.exec, B0.bytes, hml, findClass_of_methodNamed B0.named, fun w hw => hts w (List.mem_cons_of_mem _ hw), B0.returns, B0.notSynchronized⟩
  rw [lg_entry_eq]
  have hl := lv_entry [.ref (q 99), .int x1] (n := 3) (Nat.le_of_ble_eq_true rfl)
  generalize (lg_sl ([.ref (q 99), .int x1]) ++ List.replicate (3 - (lg_sl ([.ref (q 99), .int x1])).length) Slot.unset).toArray = ls at hl ⊢
  generalize [Value.ref (q 99), Value.int x1].toArray = args at C ⊢
  have hl : lv_has ls 3 [(0, .ref (q 99)), (1, .int x1)] := hl
  have hI : CI D cy s P0 s.heap s.heap [] q z (SW cy qi txi Ii Ai ++ tl) xx I J A B := ⟨hK, hP, hD, va_S.rf, hSF⟩
  refine lv_iload_n C.1 C.2.1 dX7_image_0 rfl (lv_at hl 1 rfl) ?_
  refine lv_iconst (v := 0) C.1 C.2.1 dX7_image_1 (by decide) ?_
  refine lv_iconst (v := 1) C.1 C.2.1 dX7_image_2 (by decide) ?_
  refine S_call (h := 3) C (kX7_isWithin l _ _ _ _ hw) ml_X7_80 st_X7_isWithin ini_X7 co_X7_isWithin hyX7_isWithin rfl ⟨by decide, by decide⟩ hl.1 rfl (Nat.le_of_ble_eq_true rfl) dX7_image_3 ⟨Nat.zero_le _, Nat.zero_le _, Nat.le_refl _, Nat.le_refl _⟩ ?_
  refine lv_if_ne (tgt := 15) C.1 C.2.1 dX7_image_6 (by decide) (fun cn => ?_) (fun cn => absurd cn (by decide))
  refine lv_aload_n C.1 C.2.1 dX7_image_15 rfl (lv_at hl 0 rfl) ?_
  refine cg_X7_1 C hI dX7_image_16 ?_
  refine lv_iload_n C.1 C.2.1 dX7_image_19 rfl (lv_at hl 1 rfl) ?_
  refine va_aldq (D := D) (C := "CornerWinds$State") C.1 C.2.1 hI.1 hI.2.1 11 4 rfl rfl (inB_in hk) dX7_image_20 ?_
  rw [show x1.toNatClampNeg = ix x1 from rfl]
  rw [hx]
  refine lv_astore_n (lv' := [(2, .ref (qi 0)), (0, .ref (q 99)), (1, .int x1)]) C.1 C.2.1 dX7_image_21 rfl hl (by decide) rfl (fun ls hl => ?_)
  refine lv_aload_n C.1 C.2.1 dX7_image_22 rfl (lv_at hl 0 rfl) ?_
  refine lv_ifnonnull (tgt := 41) C.1 C.2.1 dX7_image_23 (by decide) ?_
  refine im_end C hI hok htx ⟨by decide, by decide, Nat.le_refl 0, Nat.le_refl 0⟩ hl (fun H locs hI => ?_)
  exact W.iret C.1 C.2.1 C.2.2.2.2.2.1 (fun t ht _ => ⟨⟨rfl, by rw [ht]; exact hI.2.1, hI.2.2.1⟩, hI.2.2.2.1.F ht⟩) hI.2.2.2.1.2.2 dX7_image_54 (hlocks := C.2.2.2.2.2.2)
set_option maxRecDepth 100000 in
set_option maxHeartbeats 8000000 in
/-- the first image: a new state -/
theorem kX7_imageN (hk : inB x1 2 = true) (hx : xx.2.1 (ix x1) = none) (hok : bcOK I = true) (htx : ∀ i v, i < 8 → xx.1 i = some v → ∃ vs, (v, (.inr (6, vs) : va_E)) ∈ tl) :
    Met l yX7_image (Cond.code yX7_image cX7_image 3 (some .int) :: WT) (rmN 3 19 1670) (va_Pc [.ref (q 99), .int x1] (fun U => va_K D vwCl (tys6 cy) U ∧ va_P D vwCl (CW cy q xx I J A B ++ tl) U.heap ∧ va_D P0 (CW cy q xx I J A B ++ tl) ∧ NX P0 U U.heap z ∧ ∀ x, U.heap.size ≤ x → P0 x))
      (fun _ st oc t => (oc = .returned (some (.int 0)) ∧ ∃ qi : Nat → Nat, va_P D vwCl (CW cy q (xx.1, va_up xx.2.1 (ix x1) (some (qi 0)), xx.2.2) (upd I 9 0) J A B ++ (SW cy qi (bcT 8 (fun _ => none) xx.1) (bcI SI0 I) (bcA SA0 A I) ++ tl)) t.heap ∧ va_D P0 (CW cy q (xx.1, va_up xx.2.1 (ix x1) (some (qi 0)), xx.2.2) (upd I 9 0) J A B ++ (SW cy qi (bcT 8 (fun _ => none) xx.1) (bcI SI0 I) (bcA SA0 A I) ++ tl))) ∧ va_F P0 st t) 19 1670 P0 := by
  have hw := wi_1 hk
  refine Met.ofW (cc := cX7_image) (maxL := 3) (ret := some .int) rfl rfl ?_
  intro p e s m args below meth c s₁ B0 hml hv
  obtain ⟨rfl, hK, hP, hD, hF, hA⟩ := hv
  have hts := atoms_spec (ws := Cond.code yX7_image cX7_image 3 (some .int) :: WT) B0.pre
  have C : Cx p s m [Value.ref (q 99), Value.int x1].toArray meth c cX7_image 3 RX7 (some .int) := ⟨B0.exec, B0.bytes, hml, findClass_of_methodNamed B0.named, fun w hw => hts w (List.mem_cons_of_mem _ hw), B0.returns, B0.notSynchronized⟩
  rw [lg_entry_eq]
  have hl := lv_entry [.ref (q 99), .int x1] (n := 3) (Nat.le_of_ble_eq_true rfl)
  generalize (lg_sl ([.ref (q 99), .int x1]) ++ List.replicate (3 - (lg_sl ([.ref (q 99), .int x1])).length) Slot.unset).toArray = ls at hl ⊢
  generalize [Value.ref (q 99), Value.int x1].toArray = args at C ⊢
  have hl : lv_has ls 3 [(0, .ref (q 99)), (1, .int x1)] := hl
  have hI : CI D cy s P0 s.heap s.heap [] q z tl xx I J A B := ⟨hK, hP, hD, va_S.rf, hF.1⟩
  refine lv_iload_n C.1 C.2.1 dX7_image_0 rfl (lv_at hl 1 rfl) ?_
  refine lv_iconst (v := 0) C.1 C.2.1 dX7_image_1 (by decide) ?_
  refine lv_iconst (v := 1) C.1 C.2.1 dX7_image_2 (by decide) ?_
  refine S_call (h := 3) C (kX7_isWithin l _ _ _ _ hw) ml_X7_80 st_X7_isWithin ini_X7 co_X7_isWithin hyX7_isWithin rfl ⟨by decide, by decide⟩ hl.1 rfl (Nat.le_of_ble_eq_true rfl) dX7_image_3 ⟨Nat.zero_le _, Nat.zero_le _, Nat.le_refl _, Nat.le_refl _⟩ ?_
  refine lv_if_ne (tgt := 15) C.1 C.2.1 dX7_image_6 (by decide) (fun cn => ?_) (fun cn => absurd cn (by decide))
  refine lv_aload_n C.1 C.2.1 dX7_image_15 rfl (lv_at hl 0 rfl) ?_
  refine cg_X7_1 C hI dX7_image_16 ?_
  refine lv_iload_n C.1 C.2.1 dX7_image_19 rfl (lv_at hl 1 rfl) ?_
  refine va_aldq (D := D) (C := "CornerWinds$State") C.1 C.2.1 hI.1 hI.2.1 11 4 rfl rfl (inB_in hk) dX7_image_20 ?_
  rw [show x1.toNatClampNeg = ix x1 from rfl]
  rw [hx]
  refine lv_astore_nN (lv' := [(2, .null), (0, .ref (q 99)), (1, .int x1)]) C.1 C.2.1 dX7_image_21 rfl hl (by decide) rfl (fun ls hl => ?_)
  refine lv_aload_nN C.1 C.2.1 dX7_image_22 rfl (lv_at hl 0 rfl) ?_
  refine lv_ifnonnullN C.1 C.2.1 dX7_image_23 ?_
  refine w_new (a := CW cy q xx I J A B) (ci := 4) (fs := [.null, .null, .null, .null, .null, .null, .null, .null, .null, .null, .null, .null, .null, .int 0]) C inlX4 tyX4_ok cl_X7_9 ins_X4 ini_X4 hK hP hD va_S.rf hA rfl (by decide) (by decide) (by decide) dX7_image_26 (fun a H hP hD hS => ?_)
  rw [List.append_assoc] at hP hD
  have hP := vaP_swap (a := []) (b := CW cy q xx I J A B) (c := [(a, .inr (4, [.null, .null, .null, .null, .null, .null, .null, .null, .null, .null, .null, .null, .null, .int 0]))]) (d := tl) hP
  have hD := vaD_swap (a := []) (b := CW cy q xx I J A B) (c := [(a, .inr (4, [.null, .null, .null, .null, .null, .null, .null, .null, .null, .null, .null, .null, .null, .int 0]))]) (d := tl) hD
  refine lv_dup C.1 C.2.1 dX7_image_29 rfl ?_
  refine N_call (pre := [(a, .inr (4, [.null, .null, .null, .null, .null, .null, .null, .null, .null, .null, .null, .null, .null, .int 0]))]) (tl := CW cy q xx I J A B ++ tl) (As := []) C hK hP hD hS hF hA (kX4_init l D cy P0 z _ a) ml_X7_11 im_X4_init ini_X4 co_X4_init hyX4_init rfl rfl ⟨by decide, by decide⟩ hl.1 rfl (Nat.le_of_ble_eq_true rfl) dX7_image_30 ⟨by decide, by decide⟩ (fun H locs ws hw hP hD hS => ?_)
  obtain ⟨b1, b2, b3, b4, b5, b6, b7, b8, b9, b10, b11, b12, b13, b14, b15, b16, b17, b18, rfl⟩ := hw
  obtain ⟨qi, e0, hP2, hD2⟩ : ∃ qi : Nat → Nat, qi 0 = a ∧ va_P D vwCl (SW cy qi (fun _ => none) SI0 SA0 ++ (CW cy q xx I J A B ++ tl)) H ∧ va_D P0 (SW cy qi (fun _ => none) SI0 SA0 ++ (CW cy q xx I J A B ++ tl)) :=
    ⟨qiF a b1 b2 b3 b4 b5 b6 b7 b8 b9 b10 b11 b12 b13 b14 b15 b16 b17 b18, rfl, vaP_pick hP [0, 8, 10, 12, 14, 16, 1, 2, 3, 4, 5, 6, 7, 18, 9, 11, 13, 15, 17] rfl, vaD_pick hD [0, 8, 10, 12, 14, 16, 1, 2, 3, 4, 5, 6, 7, 18, 9, 11, 13, 15, 17] (by decide) rfl⟩
  subst e0
  have hP := vaP_swap (a := []) (b := SW cy qi (fun _ => none) SI0 SA0) (c := CW cy q xx I J A B) (d := tl) hP2
  have hD := vaD_swap (a := []) (b := SW cy qi (fun _ => none) SI0 SA0) (c := CW cy q xx I J A B) (d := tl) hD2
  have hI : CI D cy s P0 s.heap H locs q z (SW cy qi (fun _ => none) SI0 SA0 ++ tl) xx I J A B := ⟨hK, hP, hD, hS, hF.1⟩
  refine lv_astore_n (lv' := [(2, .ref (qi 0)), (0, .ref (q 99)), (1, .int x1)]) C.1 C.2.1 dX7_image_33 rfl hl (by decide) rfl (fun ls hl => ?_)
  refine lv_aload_n C.1 C.2.1 dX7_image_34 rfl (lv_at hl 1 rfl) ?_
  refine cg_X7_1 C hI dX7_image_35 ?_
  refine lv_iload_n C.1 C.2.1 dX7_image_38 rfl (lv_at hl 2 rfl) ?_
  refine lv_aload_n C.1 C.2.1 dX7_image_39 rfl (lv_at hl 0 rfl) ?_
  refine va_astq (D := D) C.1 C.2.1 hI.1 hI.2.1 hI.2.2.1 hI.2.2.2.1 11 4 48 4 rfl (r := (RX4, TX4, 14)) rfl rfl rfl (inB_in hk) dX7_image_40 (fun H locs hP hD hS => ?_)
  have hI : CI D cy s P0 s.heap H locs q z (SW cy qi (fun _ => none) SI0 SA0 ++ tl) (xx.1, va_up xx.2.1 (ix x1) (some (qi 0)), xx.2.2) I J A B := ⟨hK, hP, hD, hS, hF.1⟩
  refine im_end C hI hok htx ⟨by decide, by decide, by decide, by decide⟩ hl (fun H locs hI => ?_)
  exact W.widen (k := 19) (n := 1670) (by decide) (by decide) (W.iret C.1 C.2.1 C.2.2.2.2.2.1 (fun t ht _ => ⟨⟨rfl, qi, by rw [ht]; exact hI.2.1, hI.2.2.1⟩, hI.2.2.2.1.F ht⟩) hI.2.2.2.1.2.2 dX7_image_54 (hlocks := C.2.2.2.2.2.2))
end KIB
