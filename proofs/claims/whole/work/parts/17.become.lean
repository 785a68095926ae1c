/-- a state's cells -/
def SW (cy : Nat → ClassId) (q : Nat → Nat) (tx : Nat → Option Nat) (I : Nat → Int32) (A : Nat → Nat → Int32) : va_W :=
  [(q 0, .inr (4, [.ref (q 10), .ref (q 11), .ref (q 12), .ref (q 13), .ref (q 14), .ref (q 15), .ref (q 16), .ref (q 17), .ref (q 18), .ref (q 19), .ref (q 20), .ref (q 21), .ref (q 22), .int (I 23)])),
   (q 17, .inr (5, [.int (I 30), .ref (q 31), .int (I 32)])),
   (q 18, .inr (5, [.int (I 33), .ref (q 34), .int (I 35)])),
   (q 19, .inr (5, [.int (I 36), .ref (q 37), .int (I 38)])),
   (q 20, .inr (5, [.int (I 39), .ref (q 40), .int (I 41)])),
   (q 21, .inr (5, [.int (I 42), .ref (q 43), .int (I 44)])),
   (q 10, .inl (cy 1, 48, .inl (A 10))),
   (q 11, .inl (cy 1, 48, .inl (A 11))),
   (q 12, .inl (cy 1, 48, .inl (A 12))),
   (q 13, .inl (cy 1, 6, .inl (A 13))),
   (q 14, .inl (cy 1, 6, .inl (A 14))),
   (q 15, .inl (cy 1, 9, .inl (A 15))),
   (q 16, .inl (cy 1, 64, .inl (A 16))),
   (q 22, .inl (cy 5, 8, .inr (.inr (.inr (.inr tx))))),
   (q 31, .inl (cy 1, 48, .inl (A 31))),
   (q 34, .inl (cy 1, 360, .inl (A 34))),
   (q 37, .inl (cy 1, 96, .inl (A 37))),
   (q 40, .inl (cy 1, 840, .inl (A 40))),
   (q 43, .inl (cy 1, 60, .inl (A 43)))]
/-- the class's other cells -/
def CR (cy : Nat → ClassId) (q : Nat → Nat) (xx : (Nat → Option Nat) × (Nat → Option Nat) × Nat) (I : Nat → Int32) (J : Nat → Int64) (A : Nat → Nat → Int32) (B : Nat → Nat → Int64) : va_W :=
  [(q 99, .inr (7, [.ref (q 0), .ref (q 1), .ref (q 2), .ref (q 3), .ref (q 4), .ref (q 5), .ref (q 6), .int (I 7), .int (I 8), .int (I 9)])),
   (q 2, .inr (1, [.ref (q 0), .ref (q 51), .ref (q 52), .int (I 53), .int (I 54), .ref (q 55), .ref (q 56), .int (I 57), .long (J 58), .long (J 59), .ref (q 60), .ref (q 61), .ref (q 62), .ref (q 63), .ref (q 64), .ref (q 65), .ref (q 66), .ref (q 67)])),
   (q 3, .inr (2, [.ref (q 0), .ref (q 2), .ref (q 72), .int (I 73), .ref (q 74), .int (I 75), .ref (q 76), .ref (q 77), .ref (q 78), .ref (q 79)])),
   (q 4, .inr (3, [.int (I 80), .ref xx.2.2, .int (I 82), .int (I 83), .int (I 84), .int (I 85), .int (I 86), .ref (q 87), .int (I 88), .ref (q 89), .int (I 90)])),
   (q 5, .inr (0, [.long (J 95), .ref (q 96), .ref (q 97), .int (I 98)])),
   (q 1, .inl (cy 4, 2, .inr (.inr (.inr (.inr xx.2.1))))),
   (q 6, .inl (cy 1, 400, .inl (A 6))),
   (q 51, .inl (cy 1, 48, .inl (A 51))),
   (q 52, .inl (cy 1, 48, .inl (A 52))),
   (q 55, .inl (cy 1, 6, .inl (A 55))),
   (q 56, .inl (cy 1, 6, .inl (A 56))),
   (q 60, .inl (cy 1, 6, .inl (A 60))),
   (q 61, .inl (cy 1, 6, .inl (A 61))),
   (q 62, .inl (cy 2, 6, .inr (.inl (B 62)))),
   (q 63, .inl (cy 1, 6, .inl (A 63))),
   (q 64, .inl (cy 1, 4, .inl (A 64))),
   (q 65, .inl (cy 2, 4, .inr (.inl (B 65)))),
   (q 66, .inl (cy 2, 4, .inr (.inl (B 66)))),
   (q 67, .inl (cy 2, 4, .inr (.inl (B 67)))),
   (q 72, .inl (cy 1, 9, .inl (A 72))),
   (q 74, .inl (cy 1, 9, .inl (A 74))),
   (q 76, .inl (cy 2, 512, .inr (.inl (B 76)))),
   (q 77, .inl (cy 1, 512, .inl (A 77))),
   (q 78, .inl (cy 1, 512, .inl (A 78))),
   (q 79, .inl (cy 1, 512, .inl (A 79))),
   (q 87, .inl (cy 1, 48, .inl (A 87))),
   (q 89, .inl (cy 1, 400, .inl (A 89))),
   (q 96, .inl (cy 1, 14, .inl (A 96))),
   (q 97, .inl (cy 2, 64, .inr (.inl (B 97))))]
theorem cw_splitP {D : va_G} {cy : Nat → ClassId} {q : Nat → Nat} {xx : (Nat → Option Nat) × (Nat → Option Nat) × Nat} {I : Nat → Int32} {J : Nat → Int64} {A : Nat → Nat → Int32} {B : Nat → Nat → Int64} {tl : va_W} {H : Heap} (h : va_P D vwCl (CW cy q xx I J A B ++ tl) H) : va_P D vwCl (SW cy q xx.1 I A ++ (CR cy q xx I J A B ++ tl)) H :=
  vaP_pick (a' := SW cy q xx.1 I A ++ CR cy q xx I J A B) h [1, 6, 7, 8, 9, 10, 13, 14, 15, 16, 17, 18, 19, 20, 21, 22, 23, 24, 25, 0, 2, 3, 4, 5, 11, 12, 26, 27, 28, 29, 30, 31, 32, 33, 34, 35, 36, 37, 38, 39, 40, 41, 42, 43, 44, 45, 46, 47] rfl
theorem cw_splitD {P0 : Nat → Prop} {cy : Nat → ClassId} {q : Nat → Nat} {xx : (Nat → Option Nat) × (Nat → Option Nat) × Nat} {I : Nat → Int32} {J : Nat → Int64} {A : Nat → Nat → Int32} {B : Nat → Nat → Int64} {tl : va_W} (h : va_D P0 (CW cy q xx I J A B ++ tl)) : va_D P0 (SW cy q xx.1 I A ++ (CR cy q xx I J A B ++ tl)) :=
  vaD_pick (a' := SW cy q xx.1 I A ++ CR cy q xx I J A B) h [1, 6, 7, 8, 9, 10, 13, 14, 15, 16, 17, 18, 19, 20, 21, 22, 23, 24, 25, 0, 2, 3, 4, 5, 11, 12, 26, 27, 28, 29, 30, 31, 32, 33, 34, 35, 36, 37, 38, 39, 40, 41, 42, 43, 44, 45, 46, 47] (by decide) rfl
def mrgI (S I : Nat → Int32) : Nat → Int32 := fun k => if 10 ≤ k ∧ k < 45 then S k else I k
def mrgA (S A : Nat → Nat → Int32) : Nat → Nat → Int32 := fun k => if 10 ≤ k ∧ k < 45 then S k else A k
theorem cw_joinP {D : va_G} {cy : Nat → ClassId} {q : Nat → Nat} {xx : (Nat → Option Nat) × (Nat → Option Nat) × Nat} {tx : Nat → Option Nat} {I S : Nat → Int32} {J : Nat → Int64} {A T : Nat → Nat → Int32} {B : Nat → Nat → Int64} {tl : va_W} {H : Heap} (h : va_P D vwCl (SW cy q tx S T ++ (CR cy q xx I J A B ++ tl)) H) : va_P D vwCl (CW cy q (tx, xx.2) (mrgI S I) J (mrgA T A) B ++ tl) H :=
  vaP_pick (a := SW cy q tx S T ++ CR cy q xx I J A B) h [19, 0, 20, 21, 22, 23, 1, 2, 3, 4, 5, 24, 25, 6, 7, 8, 9, 10, 11, 12, 13, 14, 15, 16, 17, 18, 26, 27, 28, 29, 30, 31, 32, 33, 34, 35, 36, 37, 38, 39, 40, 41, 42, 43, 44, 45, 46, 47] rfl
theorem cw_joinD {P0 : Nat → Prop} {cy : Nat → ClassId} {q : Nat → Nat} {xx : (Nat → Option Nat) × (Nat → Option Nat) × Nat} {tx : Nat → Option Nat} {I S : Nat → Int32} {J : Nat → Int64} {A T : Nat → Nat → Int32} {B : Nat → Nat → Int64} {tl : va_W} (h : va_D P0 (SW cy q tx S T ++ (CR cy q xx I J A B ++ tl))) : va_D P0 (CW cy q (tx, xx.2) (mrgI S I) J (mrgA T A) B ++ tl) :=
  vaD_pick (a := SW cy q tx S T ++ CR cy q xx I J A B) h [19, 0, 20, 21, 22, 23, 1, 2, 3, 4, 5, 24, 25, 6, 7, 8, 9, 10, 11, 12, 13, 14, 15, 16, 17, 18, 26, 27, 28, 29, 30, 31, 32, 33, 34, 35, 36, 37, 38, 39, 40, 41, 42, 43, 44, 45, 46, 47] (by decide) rfl

/-- how much of a table is copied -/
def usedN (n : Nat) (sz wd : Int32) : Int32 := if (sz * wd) < nI n then sz * wd else nI n
set_option maxRecDepth 100000 in
set_option maxHeartbeats 8000000 in
theorem kX5_become (l : Launch) (D : va_G) (P0 : Nat → Prop) (tys : List (ClassId × FieldType)) (ws : va_W) (p1 p2 p3 p4 t0 a1 a2 a3 a4 n1 n2 : Nat) (cA : ClassId) (f1 f2 : Nat → Int32) (w1 s1 w2 s2 : Int32)
    (h1 : ws[p1]? = some (a1, .inr (5, [.int w1, .ref a2, .int s1]))) (h2 : ws[p2]? = some (a2, .inl (cA, n1, .inl f1))) (h3 : ws[p3]? = some (a3, .inr (5, [.int w2, .ref a4, .int s2]))) (h4 : ws[p4]? = some (a4, .inl (cA, n2, .inl f2))) (ht : tys[t0]? = some (cA, .int)) (hu0 : ¬ usedN n1 s2 w2 < 0) (hu1 : ix (usedN n1 s2 w2) ≤ n1) (hu2 : ix (usedN n1 s2 w2) ≤ n2) :
    Met l yX5_become (Cond.code yX5_become cX5_become 3 none :: WT) (rmL 1) (va_Pc [.ref a1, .ref a3] (fun U => va_K D vwCl tys U ∧ va_P D vwCl ws U.heap ∧ va_D P0 ws))
      (fun _ st oc t => (oc = .returned none ∧ va_P D vwCl ((ws.set p2 (a2, .inl (cA, n1, .inl (va_cpy f2 f1 (ix 0) (ix 0) (ix (usedN n1 s2 w2)))))).set p1 (a1, .inr (5, [.int w1, .ref a2, .int s2]))) t.heap ∧ va_D P0 ((ws.set p2 (a2, .inl (cA, n1, .inl (va_cpy f2 f1 (ix 0) (ix 0) (ix (usedN n1 s2 w2)))))).set p1 (a1, .inr (5, [.int w1, .ref a2, .int s2])))) ∧ va_F P0 st t) 0 0 P0 := by
  refine Met.ofW (cc := cX5_become) (maxL := 3) (ret := none) rfl rfl ?_
  intro p e s m args below meth c s₁ B0 hml hv
  obtain ⟨rfl, hK, hP, hD⟩ := hv
  have hts := atoms_spec (ws := Cond.code yX5_become cX5_become 3 none :: WT) B0.pre
  have C : Cx p s m [Value.ref a1, Value.ref a3].toArray meth c cX5_become 3 RX5 none := ⟨B0.exec, B0.bytes, hml, findClass_of_methodNamed B0.named, fun w hw => hts w (List.mem_cons_of_mem _ hw), B0.returns, B0.notSynchronized⟩
  have hS : va_S P0 s.heap s.heap [] := va_S.rf
  have n21 : p2 ≠ p1 := fun q => by rw [q, h1] at h2; cases h2
  have n23 : p2 ≠ p3 := fun q => by rw [q, h3] at h2; cases h2
  rw [lg_entry_eq]
  have hl := lv_entry [.ref a1, .ref a3] (n := 3) (Nat.le_of_ble_eq_true rfl)
  generalize (lg_sl ([.ref a1, .ref a3]) ++ List.replicate (3 - (lg_sl ([.ref a1, .ref a3])).length) Slot.unset).toArray = ls at hl ⊢
  have hl : lv_has ls 3 [(0, .ref a1), (1, .ref a3)] := hl
  refine lv_aload_n C.1 C.2.1 dX5_become_0 rfl (lv_at hl 0 rfl) ?_
  refine va_get (D := D) (ci := 5) (v := .ref a2) (C := RX5) (T := TX5) (N := 3) C.1 C.2.1 C.2.2.2.2.1 inlX5 C.2.2.2.1 hK hP p1 h1 rfl 1 (by decide) (C.2.2.2.2.1 _ fl_X5_16) (fun _ h => h) rfl dX5_become_1 ?_
  refine va_alen (D := D) (v := nI n1) C.1 C.2.1 hK hP p2 t0 h2 ht rfl dX5_become_4 ?_
  refine lv_aload_n C.1 C.2.1 dX5_become_5 rfl (lv_at hl 1 rfl) ?_
  refine va_get (D := D) (ci := 5) (v := .int s2) (C := RX5) (T := TX5) (N := 3) C.1 C.2.1 C.2.2.2.2.1 inlX5 C.2.2.2.1 hK hP p3 h3 rfl 2 (by decide) (C.2.2.2.2.1 _ fl_X5_7) (fun _ h => h) rfl dX5_become_6 ?_
  refine lv_aload_n C.1 C.2.1 dX5_become_9 rfl (lv_at hl 1 rfl) ?_
  refine va_get (D := D) (ci := 5) (v := .int w2) (C := RX5) (T := TX5) (N := 3) C.1 C.2.1 C.2.2.2.2.1 inlX5 C.2.2.2.1 hK hP p3 h3 rfl 0 (by decide) (C.2.2.2.2.1 _ fl_X5_13) (fun _ h => h) rfl dX5_become_10 ?_
  refine lv_imul C.1 C.2.1 dX5_become_13 ?_
  refine c_min (h := 1) C hl.1 ml_X5_24 (by decide) (Nat.le_of_ble_eq_true rfl) dX5_become_14 ?_
  refine lv_topi (fun u eu => ?_)
  have eu : u = usedN n1 s2 w2 := eu
  subst eu
  refine lv_istore_n (lv' := [(2, .int (usedN n1 s2 w2)), (0, .ref a1), (1, .ref a3)]) C.1 C.2.1 dX5_become_17 rfl hl (by decide) rfl (fun ls hl => ?_)
  refine lv_aload_n C.1 C.2.1 dX5_become_18 rfl (lv_at hl 2 rfl) ?_
  refine va_get (D := D) (ci := 5) (v := .ref a4) (C := RX5) (T := TX5) (N := 3) C.1 C.2.1 C.2.2.2.2.1 inlX5 C.2.2.2.1 hK hP p3 h3 rfl 1 (by decide) (C.2.2.2.2.1 _ fl_X5_16) (fun _ h => h) rfl dX5_become_19 ?_
  refine lv_iconst (v := 0) C.1 C.2.1 dX5_become_22 (by decide) ?_
  refine lv_aload_n C.1 C.2.1 dX5_become_23 rfl (lv_at hl 1 rfl) ?_
  refine va_get (D := D) (ci := 5) (v := .ref a2) (C := RX5) (T := TX5) (N := 3) C.1 C.2.1 C.2.2.2.2.1 inlX5 C.2.2.2.1 hK hP p1 h1 rfl 1 (by decide) (C.2.2.2.2.1 _ fl_X5_16) (fun _ h => h) rfl dX5_become_24 ?_
  refine lv_iconst (v := 0) C.1 C.2.1 dX5_become_27 (by decide) ?_
  refine lv_iload_n C.1 C.2.1 dX5_become_28 rfl (lv_at hl 0 rfl) ?_
  refine va_copyi (D := D) (ty := .int) C.1 C.2.1 (C.2.2.1.trans hl.1.symm) C.2.2.2.1 (C.2.2.2.2.1 _ ml_X5_30) (C.2.2.2.2.1 _ nat_copy) (C.2.2.2.2.1 _ st_arraycopyName) (C.2.2.2.2.1 _ ini_java_lang_System) hK hP hD hS p4 p2 t0 t0 h4 h2 ht ht rfl (by decide) (by decide) hu0 (by show 0 + ix (usedN n1 s2 w2) ≤ n2; omega) (by show 0 + ix (usedN n1 s2 w2) ≤ n1; omega) (fun _ _ => rfl) (Nat.le_refl 1) (by decide) dX5_become_29 (fun H locs hP hD hS => ?_)
  refine lv_aload_n C.1 C.2.1 dX5_become_32 rfl (lv_at hl 1 rfl) ?_
  refine lv_aload_n C.1 C.2.1 dX5_become_33 rfl (lv_at hl 2 rfl) ?_
  refine va_get (D := D) (ci := 5) (v := .int s2) (C := RX5) (T := TX5) (N := 3) C.1 C.2.1 C.2.2.2.2.1 inlX5 C.2.2.2.1 hK hP p3 (by rw [List.getElem?_set_ne n23]; exact h3) rfl 2 (by decide) (C.2.2.2.2.1 _ fl_X5_7) (fun _ h => h) rfl dX5_become_34 ?_
  refine va_put (D := D) (ci := 5) (ty := .int) (C := RX5) (T := TX5) (N := 3) C.1 C.2.1 C.2.2.2.2.1 inlX5 tyX5 tyX5_ok nmX5 C.2.2.2.1 hK hP hD hS p1 (by rw [List.getElem?_set_ne n21]; exact h1) rfl 2 (by decide) (C.2.2.2.2.1 _ fl_X5_7) (fun _ h => h) rfl (by decide +kernel) rfl rfl (Nat.le_of_ble_eq_true rfl) dX5_become_37 (fun H locs hP hD hS => ?_)
  exact W.vret C.1 C.2.1 C.2.2.2.2.2.1 (fun t ht _ => ⟨⟨rfl, by rw [ht]; exact hP, hD⟩, hS.F ht⟩) hS.2.2 dX5_become_40 (hlocks := C.2.2.2.2.2.2)

def bcI (I1 I2 : Nat → Int32) : Nat → Int32 := (upd (upd (upd (upd (upd (upd I1 32 (I2 32)) 35 (I2 35)) 38 (I2 38)) 41 (I2 41)) 44 (I2 44)) 23 (I2 23))
def bcA (A1 A2 : Nat → Nat → Int32) (I2 : Nat → Int32) : Nat → Nat → Int32 := (va_up (va_up (va_up (va_up (va_up (va_up (va_up (va_up (va_up (va_up (va_up (va_up A1 10 (va_cpy (A2 10) (A1 10) (ix 0) (ix 0) (ix 48))) 11 (va_cpy (A2 11) (A1 11) (ix 0) (ix 0) (ix 48))) 12 (va_cpy (A2 12) (A1 12) (ix 0) (ix 0) (ix 48))) 13 (va_cpy (A2 13) (A1 13) (ix 0) (ix 0) (ix 6))) 14 (va_cpy (A2 14) (A1 14) (ix 0) (ix 0) (ix 6))) 15 (va_cpy (A2 15) (A1 15) (ix 0) (ix 0) (ix 9))) 16 (va_cpy (A2 16) (A1 16) (ix 0) (ix 0) (ix 64))) 31 (va_cpy (A2 31) (A1 31) (ix 0) (ix 0) (ix (usedN 48 (I2 32) (I2 30))))) 34 (va_cpy (A2 34) (A1 34) (ix 0) (ix 0) (ix (usedN 360 (I2 35) (I2 33))))) 37 (va_cpy (A2 37) (A1 37) (ix 0) (ix 0) (ix (usedN 96 (I2 38) (I2 36))))) 40 (va_cpy (A2 40) (A1 40) (ix 0) (ix 0) (ix (usedN 840 (I2 41) (I2 39))))) 43 (va_cpy (A2 43) (A1 43) (ix 0) (ix 0) (ix (usedN 60 (I2 44) (I2 42)))))
def bcT (n : Nat) (t1 t2 : Nat → Option Nat) : Nat → Option Nat := fun j => if j < n then t2 j else t1 j
def bcOK (I2 : Nat → Int32) : Bool := (decide (¬ usedN 48 (I2 32) (I2 30) < 0) && decide (ix (usedN 48 (I2 32) (I2 30)) ≤ 48)) && (decide (¬ usedN 360 (I2 35) (I2 33) < 0) && decide (ix (usedN 360 (I2 35) (I2 33)) ≤ 360)) && (decide (¬ usedN 96 (I2 38) (I2 36) < 0) && decide (ix (usedN 96 (I2 38) (I2 36)) ≤ 96)) && (decide (¬ usedN 840 (I2 41) (I2 39) < 0) && decide (ix (usedN 840 (I2 41) (I2 39)) ≤ 840)) && (decide (¬ usedN 60 (I2 44) (I2 42) < 0) && decide (ix (usedN 60 (I2 44) (I2 42)) ≤ 60))
theorem bcOK_e {I2 : Nat → Int32} (h : bcOK I2 = true) : (¬ usedN 48 (I2 32) (I2 30) < 0 ∧ ix (usedN 48 (I2 32) (I2 30)) ≤ 48) ∧ (¬ usedN 360 (I2 35) (I2 33) < 0 ∧ ix (usedN 360 (I2 35) (I2 33)) ≤ 360) ∧ (¬ usedN 96 (I2 38) (I2 36) < 0 ∧ ix (usedN 96 (I2 38) (I2 36)) ≤ 96) ∧ (¬ usedN 840 (I2 41) (I2 39) < 0 ∧ ix (usedN 840 (I2 41) (I2 39)) ≤ 840) ∧ (¬ usedN 60 (I2 44) (I2 42) < 0 ∧ ix (usedN 60 (I2 44) (I2 42)) ≤ 60) := by simpa [bcOK, and_assoc] using h
theorem bcT_s (n : Nat) (t1 t2 : Nat → Option Nat) : va_up (bcT n t1 t2) n (t2 n) = bcT (n + 1) t1 t2 := by
  funext j
  simp only [va_up, bcT]
  by_cases hj : j = n
  · subst hj; simp
  · rw [if_neg hj]
    by_cases h3 : j < n
    · rw [if_pos h3, if_pos (by omega)]
    · rw [if_neg h3, if_neg (by omega)]

section BCW
variable {p : Program} {l : Launch} {e : Env} {s : State} {m : MethodId} {args : Array Value} {below : List Frame} {meth : Method} {c : Code} {H : Heap} {locs : List Loc} {idx nL n1 n2 : Nat} {Q : State → Prop} {cc : ByteArray} {pc : Nat} {ls : Array Slot} {rest : List Value} {ret : Option FieldType} {own : String}
variable {D : va_G} {P0 : Nat → Prop} {ws : va_W} {tys : List (ClassId × FieldType)}
/-- a call of a table's become, in any world -/
theorem w_become {h p1 p2 p3 p4 t0 a1 a2 a3 a4 : Nat} {cA : ClassId} {f1 f2 : Nat → Int32} {w1 s1 w2 s2 : Int32} (C : Cx p s m args meth c cc nL own ret) (hK : va_K D vwCl tys s) (hP : va_P D vwCl ws H) (hD : va_D P0 ws) (hS : va_S P0 s.heap H locs) (wl : Cond.methodLink own idx yX5_become ∈ WT) (hsz : ls.size = nL) (hW : (rest.map fun v => v.category).sum ≤ 8)
    (h1 : ws[p1]? = some (a1, .inr (5, [.int w1, .ref a2, .int s1]))) (h2 : ws[p2]? = some (a2, .inl (cA, n1, .inl f1))) (h3 : ws[p3]? = some (a3, .inr (5, [.int w2, .ref a4, .int s2]))) (h4 : ws[p4]? = some (a4, .inl (cA, n2, .inl f2))) (ht : tys[t0]? = some (cA, .int)) (hu0 : ¬ usedN n1 s2 w2 < 0) (hu1 : ix (usedN n1 s2 w2) ≤ n1) (hu2 : ix (usedN n1 s2 w2) ≤ n2) (ci5 : vwCl[5]? = some (RX5, TX5, 3)) (hd : decode cc pc = .ok (.invokevirtual idx, 3))
    (kk : ∀ (H1 : Heap) (locs1 : List Loc), va_P D vwCl ((ws.set p2 (a2, .inl (cA, n1, .inl (va_cpy f2 f1 (ix 0) (ix 0) (ix (usedN n1 s2 w2)))))).set p1 (a1, .inr (5, [.int w1, .ref a2, .int s2]))) H1 → va_D P0 ((ws.set p2 (a2, .inl (cA, n1, .inl (va_cpy f2 f1 (ix 0) (ix 0) (ix (usedN n1 s2 w2)))))).set p1 (a1, .inr (5, [.int w1, .ref a2, .int s2]))) → va_S P0 s.heap H1 locs1 → W p l e (rmL (h + 2)) s m args below meth c H1 locs1 0 0 Q (F0 m (pc + 3) ls rest)) :
    W p l e (rmL (h + 2)) s m args below meth c H locs 0 0 Q (F0 m pc ls (.ref a3 :: .ref a1 :: rest)) := by
  have hrv := va_recv hK hP (ci := 5) (q0 := p1) ci5 h1
  have hr := run_V (l := l) (e := e) (below := below) (H := H) (locs := locs) (cells := 0) (slots := 0) (R := rmL (h + 2)) (rm := rmL 1) (C := RX5) (b := a1) (As := [.ref a3]) (rest := rest) C (kX5_become l D P0 tys ws p1 p2 p3 p4 t0 a1 a2 a3 a4 n1 n2 cA f1 f2 w1 s1 w2 s2 h1 h2 h3 h4 ht hu0 hu1 hu2) (wt_callB (rm := rmL 1) C wl ini_X5 co_X5_become rfl rfl hyX5_become ⟨by show 1 + 1 ≤ h + 2; omega, by show 8 + (3 + 11) + 60 * 1 ≤ 60 * (h + 2); omega⟩) im_X5_become se_X5_become
    ⟨fun a U g mk z => by
      obtain ⟨z0, z1, z2, z3⟩ := z
      exact ⟨z0, va_K.moved (u := U) (U := U.calling g mk a) (Vm.Alike.refl U.vm) z1, z2, z3⟩, hrv, fun U hU hW => ⟨rfl, va_K.moved hW.alike hK, by rw [hU]; exact hP, hD⟩⟩ rfl hsz rfl hW hd ⟨Nat.le_refl 0, Nat.le_refl 0⟩
  intro T hT X
  obtain ⟨v, st₀, t, T', L, h0, X', hL, e1, e2, ⟨⟨hv, hP1, hD1⟩, hz, hk⟩, st⟩ := hr T hT X
  cases hv
  rw [h0] at hz hk
  obtain ⟨t2, x1, x2⟩ := kk T'.heap (locs ++ L) (by rw [e1]; exact hP1) hD1 ⟨Nat.le_trans hS.1 (by rw [e1]; exact hz), fun x h1 h2 => by rw [e1, hk x (Nat.lt_of_lt_of_le h1 hS.1) h2]; exact hS.2.1 x h1 h2, fun x hx => by
      rcases List.mem_append.mp hx with h | h
      · exact hS.2.2 x h
      · exact hL x h⟩ T' rfl X'
  exact ⟨t2, st t2 x1, x2⟩
end BCW

set_option maxRecDepth 100000 in
set_option maxHeartbeats 16000000 in
theorem kX4_become (l : Launch) (D : va_G) (cy : Nat → ClassId) (P0 : Nat → Prop) (q1 q2 : Nat → Nat) (tl : va_W) (tx1 tx2 : Nat → Option Nat) (I1 I2 : Nat → Int32) (A1 A2 : Nat → Nat → Int32) (hok : bcOK I2 = true) (htx : ∀ i v, i < 8 → tx2 i = some v → ∃ vs, (v, (.inr (6, vs) : va_E)) ∈ tl) :
    Met l yX4_become (Cond.code yX4_become cX4_become 3 none :: WT) (rmL 2) (va_Pc [.ref (q1 0), .ref (q2 0)] (fun U => va_K D vwCl (tys6 cy) U ∧ va_P D vwCl (SW cy q1 tx1 I1 A1 ++ (SW cy q2 tx2 I2 A2 ++ tl)) U.heap ∧ va_D P0 (SW cy q1 tx1 I1 A1 ++ (SW cy q2 tx2 I2 A2 ++ tl))))
      (fun _ st oc t => (oc = .returned none ∧ va_P D vwCl (SW cy q1 (bcT 8 tx1 tx2) (bcI I1 I2) (bcA A1 A2 I2) ++ (SW cy q2 tx2 I2 A2 ++ tl)) t.heap ∧ va_D P0 (SW cy q1 (bcT 8 tx1 tx2) (bcI I1 I2) (bcA A1 A2 I2) ++ (SW cy q2 tx2 I2 A2 ++ tl))) ∧ va_F P0 st t) 0 0 P0 := by
  refine Met.ofW (cc := cX4_become) (maxL := 3) (ret := none) rfl rfl ?_
  intro p e s m args below meth c s₁ B0 hml hv
  obtain ⟨rfl, hK, hP, hD⟩ := hv
  have hok := bcOK_e hok
  have hts := atoms_spec (ws := Cond.code yX4_become cX4_become 3 none :: WT) B0.pre
  have C : Cx p s m [Value.ref (q1 0), Value.ref (q2 0)].toArray meth c cX4_become 3 RX4 none := ⟨B0.exec, B0.bytes, hml, findClass_of_methodNamed B0.named, fun w hw => hts w (List.mem_cons_of_mem _ hw), B0.returns, B0.notSynchronized⟩
  have hS : va_S P0 s.heap s.heap [] := va_S.rf
  rw [lg_entry_eq]
  have hl := lv_entry [.ref (q1 0), .ref (q2 0)] (n := 3) (Nat.le_of_ble_eq_true rfl)
  generalize (lg_sl ([.ref (q1 0), .ref (q2 0)]) ++ List.replicate (3 - (lg_sl ([.ref (q1 0), .ref (q2 0)])).length) Slot.unset).toArray = ls at hl ⊢
  generalize [Value.ref (q1 0), Value.ref (q2 0)].toArray = args at C ⊢
  have hl : lv_has ls 3 [(0, .ref (q1 0)), (1, .ref (q2 0))] := hl
  refine lv_aload_n C.1 C.2.1 dX4_become_0 rfl (lv_at hl 1 rfl) ?_
  refine va_get (D := D) (ci := 4) (v := .ref (q2 10)) (C := RX4) (T := TX4) (N := 14) C.1 C.2.1 C.2.2.2.2.1 inlX4 C.2.2.2.1 hK hP 19 rfl rfl 0 (by decide) (C.2.2.2.2.1 _ fl_X4_9) (fun _ h => h) rfl dX4_become_1 ?_
  refine lv_iconst (v := 0) C.1 C.2.1 dX4_become_4 (by decide) ?_
  refine lv_aload_n C.1 C.2.1 dX4_become_5 rfl (lv_at hl 0 rfl) ?_
  refine va_get (D := D) (ci := 4) (v := .ref (q1 10)) (C := RX4) (T := TX4) (N := 14) C.1 C.2.1 C.2.2.2.2.1 inlX4 C.2.2.2.1 hK hP 0 rfl rfl 0 (by decide) (C.2.2.2.2.1 _ fl_X4_9) (fun _ h => h) rfl dX4_become_6 ?_
  refine lv_iconst (v := 0) C.1 C.2.1 dX4_become_9 (by decide) ?_
  refine lv_bipush (v := 48) C.1 C.2.1 dX4_become_10 (by decide) ?_
  refine va_copyi (D := D) (ty := .int) C.1 C.2.1 (C.2.2.1.trans hl.1.symm) C.2.2.2.1 (C.2.2.2.2.1 _ ml_X4_73) (C.2.2.2.2.1 _ nat_copy) (C.2.2.2.2.1 _ st_arraycopyName) (C.2.2.2.2.1 _ ini_java_lang_System) hK hP hD hS 25 6 1 1 rfl rfl rfl rfl rfl (by decide) (by decide) (by decide) (by decide) (by decide) (fun _ _ => rfl) (by decide) (by decide) dX4_become_12 (fun H locs hP hD hS => ?_)
  obtain ⟨B10, eB10⟩ : ∃ x : Nat → Nat → Int32, x = (va_up A1 10 (va_cpy (A2 10) (A1 10) (ix 0) (ix 0) (ix 48))) := ⟨_, rfl⟩
  have hP : va_P D vwCl (SW cy q1 tx1 I1 B10 ++ (SW cy q2 tx2 I2 A2 ++ tl)) H := by rw [eB10]; exact hP
  have hD : va_D P0 (SW cy q1 tx1 I1 B10 ++ (SW cy q2 tx2 I2 A2 ++ tl)) := by rw [eB10]; exact hD
  refine lv_aload_n C.1 C.2.1 dX4_become_15 rfl (lv_at hl 1 rfl) ?_
  refine va_get (D := D) (ci := 4) (v := .ref (q2 11)) (C := RX4) (T := TX4) (N := 14) C.1 C.2.1 C.2.2.2.2.1 inlX4 C.2.2.2.1 hK hP 19 rfl rfl 1 (by decide) (C.2.2.2.2.1 _ fl_X4_15) (fun _ h => h) rfl dX4_become_16 ?_
  refine lv_iconst (v := 0) C.1 C.2.1 dX4_become_19 (by decide) ?_
  refine lv_aload_n C.1 C.2.1 dX4_become_20 rfl (lv_at hl 0 rfl) ?_
  refine va_get (D := D) (ci := 4) (v := .ref (q1 11)) (C := RX4) (T := TX4) (N := 14) C.1 C.2.1 C.2.2.2.2.1 inlX4 C.2.2.2.1 hK hP 0 rfl rfl 1 (by decide) (C.2.2.2.2.1 _ fl_X4_15) (fun _ h => h) rfl dX4_become_21 ?_
  refine lv_iconst (v := 0) C.1 C.2.1 dX4_become_24 (by decide) ?_
  refine lv_bipush (v := 48) C.1 C.2.1 dX4_become_25 (by decide) ?_
  refine va_copyi (D := D) (ty := .int) C.1 C.2.1 (C.2.2.1.trans hl.1.symm) C.2.2.2.1 (C.2.2.2.2.1 _ ml_X4_73) (C.2.2.2.2.1 _ nat_copy) (C.2.2.2.2.1 _ st_arraycopyName) (C.2.2.2.2.1 _ ini_java_lang_System) hK hP hD hS 26 7 1 1 rfl rfl rfl rfl rfl (by decide) (by decide) (by decide) (by decide) (by decide) (fun _ _ => rfl) (by decide) (by decide) dX4_become_27 (fun H locs hP hD hS => ?_)
  obtain ⟨B11, eB11⟩ : ∃ x : Nat → Nat → Int32, x = (va_up B10 11 (va_cpy (A2 11) (B10 11) (ix 0) (ix 0) (ix 48))) := ⟨_, rfl⟩
  have hP : va_P D vwCl (SW cy q1 tx1 I1 B11 ++ (SW cy q2 tx2 I2 A2 ++ tl)) H := by rw [eB11]; exact hP
  have hD : va_D P0 (SW cy q1 tx1 I1 B11 ++ (SW cy q2 tx2 I2 A2 ++ tl)) := by rw [eB11]; exact hD
  refine lv_aload_n C.1 C.2.1 dX4_become_30 rfl (lv_at hl 1 rfl) ?_
  refine va_get (D := D) (ci := 4) (v := .ref (q2 12)) (C := RX4) (T := TX4) (N := 14) C.1 C.2.1 C.2.2.2.2.1 inlX4 C.2.2.2.1 hK hP 19 rfl rfl 2 (by decide) (C.2.2.2.2.1 _ fl_X4_18) (fun _ h => h) rfl dX4_become_31 ?_
  refine lv_iconst (v := 0) C.1 C.2.1 dX4_become_34 (by decide) ?_
  refine lv_aload_n C.1 C.2.1 dX4_become_35 rfl (lv_at hl 0 rfl) ?_
  refine va_get (D := D) (ci := 4) (v := .ref (q1 12)) (C := RX4) (T := TX4) (N := 14) C.1 C.2.1 C.2.2.2.2.1 inlX4 C.2.2.2.1 hK hP 0 rfl rfl 2 (by decide) (C.2.2.2.2.1 _ fl_X4_18) (fun _ h => h) rfl dX4_become_36 ?_
  refine lv_iconst (v := 0) C.1 C.2.1 dX4_become_39 (by decide) ?_
  refine lv_bipush (v := 48) C.1 C.2.1 dX4_become_40 (by decide) ?_
  refine va_copyi (D := D) (ty := .int) C.1 C.2.1 (C.2.2.1.trans hl.1.symm) C.2.2.2.1 (C.2.2.2.2.1 _ ml_X4_73) (C.2.2.2.2.1 _ nat_copy) (C.2.2.2.2.1 _ st_arraycopyName) (C.2.2.2.2.1 _ ini_java_lang_System) hK hP hD hS 27 8 1 1 rfl rfl rfl rfl rfl (by decide) (by decide) (by decide) (by decide) (by decide) (fun _ _ => rfl) (by decide) (by decide) dX4_become_42 (fun H locs hP hD hS => ?_)
  obtain ⟨B12, eB12⟩ : ∃ x : Nat → Nat → Int32, x = (va_up B11 12 (va_cpy (A2 12) (B11 12) (ix 0) (ix 0) (ix 48))) := ⟨_, rfl⟩
  have hP : va_P D vwCl (SW cy q1 tx1 I1 B12 ++ (SW cy q2 tx2 I2 A2 ++ tl)) H := by rw [eB12]; exact hP
  have hD : va_D P0 (SW cy q1 tx1 I1 B12 ++ (SW cy q2 tx2 I2 A2 ++ tl)) := by rw [eB12]; exact hD
  refine lv_aload_n C.1 C.2.1 dX4_become_45 rfl (lv_at hl 1 rfl) ?_
  refine va_get (D := D) (ci := 4) (v := .ref (q2 13)) (C := RX4) (T := TX4) (N := 14) C.1 C.2.1 C.2.2.2.2.1 inlX4 C.2.2.2.1 hK hP 19 rfl rfl 3 (by decide) (C.2.2.2.2.1 _ fl_X4_21) (fun _ h => h) rfl dX4_become_46 ?_
  refine lv_iconst (v := 0) C.1 C.2.1 dX4_become_49 (by decide) ?_
  refine lv_aload_n C.1 C.2.1 dX4_become_50 rfl (lv_at hl 0 rfl) ?_
  refine va_get (D := D) (ci := 4) (v := .ref (q1 13)) (C := RX4) (T := TX4) (N := 14) C.1 C.2.1 C.2.2.2.2.1 inlX4 C.2.2.2.1 hK hP 0 rfl rfl 3 (by decide) (C.2.2.2.2.1 _ fl_X4_21) (fun _ h => h) rfl dX4_become_51 ?_
  refine lv_iconst (v := 0) C.1 C.2.1 dX4_become_54 (by decide) ?_
  refine lv_bipush (v := 6) C.1 C.2.1 dX4_become_55 (by decide) ?_
  refine va_copyi (D := D) (ty := .int) C.1 C.2.1 (C.2.2.1.trans hl.1.symm) C.2.2.2.1 (C.2.2.2.2.1 _ ml_X4_73) (C.2.2.2.2.1 _ nat_copy) (C.2.2.2.2.1 _ st_arraycopyName) (C.2.2.2.2.1 _ ini_java_lang_System) hK hP hD hS 28 9 1 1 rfl rfl rfl rfl rfl (by decide) (by decide) (by decide) (by decide) (by decide) (fun _ _ => rfl) (by decide) (by decide) dX4_become_57 (fun H locs hP hD hS => ?_)
  obtain ⟨B13, eB13⟩ : ∃ x : Nat → Nat → Int32, x = (va_up B12 13 (va_cpy (A2 13) (B12 13) (ix 0) (ix 0) (ix 6))) := ⟨_, rfl⟩
  have hP : va_P D vwCl (SW cy q1 tx1 I1 B13 ++ (SW cy q2 tx2 I2 A2 ++ tl)) H := by rw [eB13]; exact hP
  have hD : va_D P0 (SW cy q1 tx1 I1 B13 ++ (SW cy q2 tx2 I2 A2 ++ tl)) := by rw [eB13]; exact hD
  refine lv_aload_n C.1 C.2.1 dX4_become_60 rfl (lv_at hl 1 rfl) ?_
  refine va_get (D := D) (ci := 4) (v := .ref (q2 14)) (C := RX4) (T := TX4) (N := 14) C.1 C.2.1 C.2.2.2.2.1 inlX4 C.2.2.2.1 hK hP 19 rfl rfl 4 (by decide) (C.2.2.2.2.1 _ fl_X4_24) (fun _ h => h) rfl dX4_become_61 ?_
  refine lv_iconst (v := 0) C.1 C.2.1 dX4_become_64 (by decide) ?_
  refine lv_aload_n C.1 C.2.1 dX4_become_65 rfl (lv_at hl 0 rfl) ?_
  refine va_get (D := D) (ci := 4) (v := .ref (q1 14)) (C := RX4) (T := TX4) (N := 14) C.1 C.2.1 C.2.2.2.2.1 inlX4 C.2.2.2.1 hK hP 0 rfl rfl 4 (by decide) (C.2.2.2.2.1 _ fl_X4_24) (fun _ h => h) rfl dX4_become_66 ?_
  refine lv_iconst (v := 0) C.1 C.2.1 dX4_become_69 (by decide) ?_
  refine lv_bipush (v := 6) C.1 C.2.1 dX4_become_70 (by decide) ?_
  refine va_copyi (D := D) (ty := .int) C.1 C.2.1 (C.2.2.1.trans hl.1.symm) C.2.2.2.1 (C.2.2.2.2.1 _ ml_X4_73) (C.2.2.2.2.1 _ nat_copy) (C.2.2.2.2.1 _ st_arraycopyName) (C.2.2.2.2.1 _ ini_java_lang_System) hK hP hD hS 29 10 1 1 rfl rfl rfl rfl rfl (by decide) (by decide) (by decide) (by decide) (by decide) (fun _ _ => rfl) (by decide) (by decide) dX4_become_72 (fun H locs hP hD hS => ?_)
  obtain ⟨B14, eB14⟩ : ∃ x : Nat → Nat → Int32, x = (va_up B13 14 (va_cpy (A2 14) (B13 14) (ix 0) (ix 0) (ix 6))) := ⟨_, rfl⟩
  have hP : va_P D vwCl (SW cy q1 tx1 I1 B14 ++ (SW cy q2 tx2 I2 A2 ++ tl)) H := by rw [eB14]; exact hP
  have hD : va_D P0 (SW cy q1 tx1 I1 B14 ++ (SW cy q2 tx2 I2 A2 ++ tl)) := by rw [eB14]; exact hD
  refine lv_aload_n C.1 C.2.1 dX4_become_75 rfl (lv_at hl 1 rfl) ?_
  refine va_get (D := D) (ci := 4) (v := .ref (q2 15)) (C := RX4) (T := TX4) (N := 14) C.1 C.2.1 C.2.2.2.2.1 inlX4 C.2.2.2.1 hK hP 19 rfl rfl 5 (by decide) (C.2.2.2.2.1 _ fl_X4_27) (fun _ h => h) rfl dX4_become_76 ?_
  refine lv_iconst (v := 0) C.1 C.2.1 dX4_become_79 (by decide) ?_
  refine lv_aload_n C.1 C.2.1 dX4_become_80 rfl (lv_at hl 0 rfl) ?_
  refine va_get (D := D) (ci := 4) (v := .ref (q1 15)) (C := RX4) (T := TX4) (N := 14) C.1 C.2.1 C.2.2.2.2.1 inlX4 C.2.2.2.1 hK hP 0 rfl rfl 5 (by decide) (C.2.2.2.2.1 _ fl_X4_27) (fun _ h => h) rfl dX4_become_81 ?_
  refine lv_iconst (v := 0) C.1 C.2.1 dX4_become_84 (by decide) ?_
  refine lv_bipush (v := 9) C.1 C.2.1 dX4_become_85 (by decide) ?_
  refine va_copyi (D := D) (ty := .int) C.1 C.2.1 (C.2.2.1.trans hl.1.symm) C.2.2.2.1 (C.2.2.2.2.1 _ ml_X4_73) (C.2.2.2.2.1 _ nat_copy) (C.2.2.2.2.1 _ st_arraycopyName) (C.2.2.2.2.1 _ ini_java_lang_System) hK hP hD hS 30 11 1 1 rfl rfl rfl rfl rfl (by decide) (by decide) (by decide) (by decide) (by decide) (fun _ _ => rfl) (by decide) (by decide) dX4_become_87 (fun H locs hP hD hS => ?_)
  obtain ⟨B15, eB15⟩ : ∃ x : Nat → Nat → Int32, x = (va_up B14 15 (va_cpy (A2 15) (B14 15) (ix 0) (ix 0) (ix 9))) := ⟨_, rfl⟩
  have hP : va_P D vwCl (SW cy q1 tx1 I1 B15 ++ (SW cy q2 tx2 I2 A2 ++ tl)) H := by rw [eB15]; exact hP
  have hD : va_D P0 (SW cy q1 tx1 I1 B15 ++ (SW cy q2 tx2 I2 A2 ++ tl)) := by rw [eB15]; exact hD
  refine lv_aload_n C.1 C.2.1 dX4_become_90 rfl (lv_at hl 1 rfl) ?_
  refine va_get (D := D) (ci := 4) (v := .ref (q2 16)) (C := RX4) (T := TX4) (N := 14) C.1 C.2.1 C.2.2.2.2.1 inlX4 C.2.2.2.1 hK hP 19 rfl rfl 6 (by decide) (C.2.2.2.2.1 _ fl_X4_30) (fun _ h => h) rfl dX4_become_91 ?_
  refine lv_iconst (v := 0) C.1 C.2.1 dX4_become_94 (by decide) ?_
  refine lv_aload_n C.1 C.2.1 dX4_become_95 rfl (lv_at hl 0 rfl) ?_
  refine va_get (D := D) (ci := 4) (v := .ref (q1 16)) (C := RX4) (T := TX4) (N := 14) C.1 C.2.1 C.2.2.2.2.1 inlX4 C.2.2.2.1 hK hP 0 rfl rfl 6 (by decide) (C.2.2.2.2.1 _ fl_X4_30) (fun _ h => h) rfl dX4_become_96 ?_
  refine lv_iconst (v := 0) C.1 C.2.1 dX4_become_99 (by decide) ?_
  refine lv_bipush (v := 64) C.1 C.2.1 dX4_become_100 (by decide) ?_
  refine va_copyi (D := D) (ty := .int) C.1 C.2.1 (C.2.2.1.trans hl.1.symm) C.2.2.2.1 (C.2.2.2.2.1 _ ml_X4_73) (C.2.2.2.2.1 _ nat_copy) (C.2.2.2.2.1 _ st_arraycopyName) (C.2.2.2.2.1 _ ini_java_lang_System) hK hP hD hS 31 12 1 1 rfl rfl rfl rfl rfl (by decide) (by decide) (by decide) (by decide) (by decide) (fun _ _ => rfl) (by decide) (by decide) dX4_become_102 (fun H locs hP hD hS => ?_)
  obtain ⟨B16, eB16⟩ : ∃ x : Nat → Nat → Int32, x = (va_up B15 16 (va_cpy (A2 16) (B15 16) (ix 0) (ix 0) (ix 64))) := ⟨_, rfl⟩
  have hP : va_P D vwCl (SW cy q1 tx1 I1 B16 ++ (SW cy q2 tx2 I2 A2 ++ tl)) H := by rw [eB16]; exact hP
  have hD : va_D P0 (SW cy q1 tx1 I1 B16 ++ (SW cy q2 tx2 I2 A2 ++ tl)) := by rw [eB16]; exact hD
  refine lv_aload_n C.1 C.2.1 dX4_become_105 rfl (lv_at hl 0 rfl) ?_
  refine va_get (D := D) (ci := 4) (v := .ref (q1 17)) (C := RX4) (T := TX4) (N := 14) C.1 C.2.1 C.2.2.2.2.1 inlX4 C.2.2.2.1 hK hP 0 rfl rfl 7 (by decide) (C.2.2.2.2.1 _ fl_X4_38) (fun _ h => h) rfl dX4_become_106 ?_
  refine lv_aload_n C.1 C.2.1 dX4_become_109 rfl (lv_at hl 1 rfl) ?_
  refine va_get (D := D) (ci := 4) (v := .ref (q2 17)) (C := RX4) (T := TX4) (N := 14) C.1 C.2.1 C.2.2.2.2.1 inlX4 C.2.2.2.1 hK hP 19 rfl rfl 7 (by decide) (C.2.2.2.2.1 _ fl_X4_38) (fun _ h => h) rfl dX4_become_110 ?_
  refine w_become (l := l) (p1 := 1) (p2 := 14) (p3 := 20) (p4 := 33) (t0 := 1) C hK hP hD hS ml_X4_79 hl.1 (Nat.le_of_ble_eq_true rfl) rfl rfl rfl rfl rfl hok.1.1 hok.1.2 hok.1.2 (ci5 := rfl) dX4_become_113 (fun H locs hP hD hS => ?_)
  obtain ⟨B31, eB31⟩ : ∃ x : Nat → Nat → Int32, x = (va_up B16 31 (va_cpy (A2 31) (B16 31) (ix 0) (ix 0) (ix (usedN 48 (I2 32) (I2 30))))) := ⟨_, rfl⟩
  obtain ⟨K32, eK32⟩ : ∃ x : Nat → Int32, x = (upd I1 32 (I2 32)) := ⟨_, rfl⟩
  have hP : va_P D vwCl (SW cy q1 tx1 K32 B31 ++ (SW cy q2 tx2 I2 A2 ++ tl)) H := by rw [eB31, eK32]; exact hP
  have hD : va_D P0 (SW cy q1 tx1 K32 B31 ++ (SW cy q2 tx2 I2 A2 ++ tl)) := by rw [eB31, eK32]; exact hD
  refine lv_aload_n C.1 C.2.1 dX4_become_116 rfl (lv_at hl 0 rfl) ?_
  refine va_get (D := D) (ci := 4) (v := .ref (q1 18)) (C := RX4) (T := TX4) (N := 14) C.1 C.2.1 C.2.2.2.2.1 inlX4 C.2.2.2.1 hK hP 0 rfl rfl 8 (by decide) (C.2.2.2.2.1 _ fl_X4_42) (fun _ h => h) rfl dX4_become_117 ?_
  refine lv_aload_n C.1 C.2.1 dX4_become_120 rfl (lv_at hl 1 rfl) ?_
  refine va_get (D := D) (ci := 4) (v := .ref (q2 18)) (C := RX4) (T := TX4) (N := 14) C.1 C.2.1 C.2.2.2.2.1 inlX4 C.2.2.2.1 hK hP 19 rfl rfl 8 (by decide) (C.2.2.2.2.1 _ fl_X4_42) (fun _ h => h) rfl dX4_become_121 ?_
  refine w_become (l := l) (p1 := 2) (p2 := 15) (p3 := 21) (p4 := 34) (t0 := 1) C hK hP hD hS ml_X4_79 hl.1 (Nat.le_of_ble_eq_true rfl) rfl rfl rfl rfl rfl hok.2.1.1 hok.2.1.2 hok.2.1.2 (ci5 := rfl) dX4_become_124 (fun H locs hP hD hS => ?_)
  obtain ⟨B34, eB34⟩ : ∃ x : Nat → Nat → Int32, x = (va_up B31 34 (va_cpy (A2 34) (B31 34) (ix 0) (ix 0) (ix (usedN 360 (I2 35) (I2 33))))) := ⟨_, rfl⟩
  obtain ⟨K35, eK35⟩ : ∃ x : Nat → Int32, x = (upd K32 35 (I2 35)) := ⟨_, rfl⟩
  have hP : va_P D vwCl (SW cy q1 tx1 K35 B34 ++ (SW cy q2 tx2 I2 A2 ++ tl)) H := by rw [eB34, eK35]; exact hP
  have hD : va_D P0 (SW cy q1 tx1 K35 B34 ++ (SW cy q2 tx2 I2 A2 ++ tl)) := by rw [eB34, eK35]; exact hD
  refine lv_aload_n C.1 C.2.1 dX4_become_127 rfl (lv_at hl 0 rfl) ?_
  refine va_get (D := D) (ci := 4) (v := .ref (q1 19)) (C := RX4) (T := TX4) (N := 14) C.1 C.2.1 C.2.2.2.2.1 inlX4 C.2.2.2.1 hK hP 0 rfl rfl 9 (by decide) (C.2.2.2.2.1 _ fl_X4_45) (fun _ h => h) rfl dX4_become_128 ?_
  refine lv_aload_n C.1 C.2.1 dX4_become_131 rfl (lv_at hl 1 rfl) ?_
  refine va_get (D := D) (ci := 4) (v := .ref (q2 19)) (C := RX4) (T := TX4) (N := 14) C.1 C.2.1 C.2.2.2.2.1 inlX4 C.2.2.2.1 hK hP 19 rfl rfl 9 (by decide) (C.2.2.2.2.1 _ fl_X4_45) (fun _ h => h) rfl dX4_become_132 ?_
  refine w_become (l := l) (p1 := 3) (p2 := 16) (p3 := 22) (p4 := 35) (t0 := 1) C hK hP hD hS ml_X4_79 hl.1 (Nat.le_of_ble_eq_true rfl) rfl rfl rfl rfl rfl hok.2.2.1.1 hok.2.2.1.2 hok.2.2.1.2 (ci5 := rfl) dX4_become_135 (fun H locs hP hD hS => ?_)
  obtain ⟨B37, eB37⟩ : ∃ x : Nat → Nat → Int32, x = (va_up B34 37 (va_cpy (A2 37) (B34 37) (ix 0) (ix 0) (ix (usedN 96 (I2 38) (I2 36))))) := ⟨_, rfl⟩
  obtain ⟨K38, eK38⟩ : ∃ x : Nat → Int32, x = (upd K35 38 (I2 38)) := ⟨_, rfl⟩
  have hP : va_P D vwCl (SW cy q1 tx1 K38 B37 ++ (SW cy q2 tx2 I2 A2 ++ tl)) H := by rw [eB37, eK38]; exact hP
  have hD : va_D P0 (SW cy q1 tx1 K38 B37 ++ (SW cy q2 tx2 I2 A2 ++ tl)) := by rw [eB37, eK38]; exact hD
  refine lv_aload_n C.1 C.2.1 dX4_become_138 rfl (lv_at hl 0 rfl) ?_
  refine va_get (D := D) (ci := 4) (v := .ref (q1 20)) (C := RX4) (T := TX4) (N := 14) C.1 C.2.1 C.2.2.2.2.1 inlX4 C.2.2.2.1 hK hP 0 rfl rfl 10 (by decide) (C.2.2.2.2.1 _ fl_X4_48) (fun _ h => h) rfl dX4_become_139 ?_
  refine lv_aload_n C.1 C.2.1 dX4_become_142 rfl (lv_at hl 1 rfl) ?_
  refine va_get (D := D) (ci := 4) (v := .ref (q2 20)) (C := RX4) (T := TX4) (N := 14) C.1 C.2.1 C.2.2.2.2.1 inlX4 C.2.2.2.1 hK hP 19 rfl rfl 10 (by decide) (C.2.2.2.2.1 _ fl_X4_48) (fun _ h => h) rfl dX4_become_143 ?_
  refine w_become (l := l) (p1 := 4) (p2 := 17) (p3 := 23) (p4 := 36) (t0 := 1) C hK hP hD hS ml_X4_79 hl.1 (Nat.le_of_ble_eq_true rfl) rfl rfl rfl rfl rfl hok.2.2.2.1.1 hok.2.2.2.1.2 hok.2.2.2.1.2 (ci5 := rfl) dX4_become_146 (fun H locs hP hD hS => ?_)
  obtain ⟨B40, eB40⟩ : ∃ x : Nat → Nat → Int32, x = (va_up B37 40 (va_cpy (A2 40) (B37 40) (ix 0) (ix 0) (ix (usedN 840 (I2 41) (I2 39))))) := ⟨_, rfl⟩
  obtain ⟨K41, eK41⟩ : ∃ x : Nat → Int32, x = (upd K38 41 (I2 41)) := ⟨_, rfl⟩
  have hP : va_P D vwCl (SW cy q1 tx1 K41 B40 ++ (SW cy q2 tx2 I2 A2 ++ tl)) H := by rw [eB40, eK41]; exact hP
  have hD : va_D P0 (SW cy q1 tx1 K41 B40 ++ (SW cy q2 tx2 I2 A2 ++ tl)) := by rw [eB40, eK41]; exact hD
  refine lv_aload_n C.1 C.2.1 dX4_become_149 rfl (lv_at hl 0 rfl) ?_
  refine va_get (D := D) (ci := 4) (v := .ref (q1 21)) (C := RX4) (T := TX4) (N := 14) C.1 C.2.1 C.2.2.2.2.1 inlX4 C.2.2.2.1 hK hP 0 rfl rfl 11 (by decide) (C.2.2.2.2.1 _ fl_X4_51) (fun _ h => h) rfl dX4_become_150 ?_
  refine lv_aload_n C.1 C.2.1 dX4_become_153 rfl (lv_at hl 1 rfl) ?_
  refine va_get (D := D) (ci := 4) (v := .ref (q2 21)) (C := RX4) (T := TX4) (N := 14) C.1 C.2.1 C.2.2.2.2.1 inlX4 C.2.2.2.1 hK hP 19 rfl rfl 11 (by decide) (C.2.2.2.2.1 _ fl_X4_51) (fun _ h => h) rfl dX4_become_154 ?_
  refine w_become (l := l) (p1 := 5) (p2 := 18) (p3 := 24) (p4 := 37) (t0 := 1) C hK hP hD hS ml_X4_79 hl.1 (Nat.le_of_ble_eq_true rfl) rfl rfl rfl rfl rfl hok.2.2.2.2.1 hok.2.2.2.2.2 hok.2.2.2.2.2 (ci5 := rfl) dX4_become_157 (fun H locs hP hD hS => ?_)
  obtain ⟨B43, eB43⟩ : ∃ x : Nat → Nat → Int32, x = (va_up B40 43 (va_cpy (A2 43) (B40 43) (ix 0) (ix 0) (ix (usedN 60 (I2 44) (I2 42))))) := ⟨_, rfl⟩
  obtain ⟨K44, eK44⟩ : ∃ x : Nat → Int32, x = (upd K41 44 (I2 44)) := ⟨_, rfl⟩
  have hP : va_P D vwCl (SW cy q1 tx1 K44 B43 ++ (SW cy q2 tx2 I2 A2 ++ tl)) H := by rw [eB43, eK44]; exact hP
  have hD : va_D P0 (SW cy q1 tx1 K44 B43 ++ (SW cy q2 tx2 I2 A2 ++ tl)) := by rw [eB43, eK44]; exact hD
  refine lv_iconst (v := 0) C.1 C.2.1 dX4_become_160 (by decide) ?_
  refine lv_istore_n (lv' := [(2, .int 0), (0, .ref (q1 0)), (1, .ref (q2 0))]) C.1 C.2.1 dX4_become_161 rfl hl (by decide) rfl (fun ls hl => ?_)
  have eAA : B43 = bcA A1 A2 I2 := by subst eB10 eB11 eB12 eB13 eB14 eB15 eB16 eB31 eB34 eB37 eB40 eB43; rfl
  have eII : upd K44 23 (I2 23) = bcI I1 I2 := by subst eK32 eK35 eK38 eK41 eK44; rfl
  generalize B43 = AA at hP hD eAA
  generalize K44 = II at hP hD eII
  have KL : ∀ (k i : Nat) (H : Heap) (locs : List Loc) (ls : Array Slot), i + k = 8 → va_P D vwCl (SW cy q1 (bcT i tx1 tx2) II AA ++ (SW cy q2 tx2 I2 A2 ++ tl)) H → va_D P0 (SW cy q1 (bcT i tx1 tx2) II AA ++ (SW cy q2 tx2 I2 A2 ++ tl)) → va_S P0 s.heap H locs → lv_has ls 3 [(2, .int (nI i)), (0, .ref (q1 0)), (1, .ref (q2 0))] → W p l e (rmL 2) s m args below meth c H locs 0 0 (MQ below (fun _ st oc t => (oc = .returned none ∧ va_P D vwCl (SW cy q1 (bcT 8 tx1 tx2) (bcI I1 I2) (bcA A1 A2 I2) ++ (SW cy q2 tx2 I2 A2 ++ tl)) t.heap ∧ va_D P0 (SW cy q1 (bcT 8 tx1 tx2) (bcI I1 I2) (bcA A1 A2 I2) ++ (SW cy q2 tx2 I2 A2 ++ tl))) ∧ va_F P0 st t) args s 0 0 P0) (F0 m 162 ls []) := by
    intro k
    induction k with
    | zero =>
      intro i H locs ls hi hP hD hS hl
      have hi : i = 8 := by omega
      subst hi
      refine lv_iload_n C.1 C.2.1 dX4_become_162 rfl (lv_at hl 0 rfl) ?_
      refine lv_bipush (v := 8) C.1 C.2.1 dX4_become_163 (by decide) ?_
      refine lv_icmp_ge (tgt := 186) C.1 C.2.1 dX4_become_165 (by decide) (fun cn => ?_) (fun cn => absurd (by decide) cn)
      refine lv_aload_n C.1 C.2.1 dX4_become_186 rfl (lv_at hl 1 rfl) ?_
      refine lv_aload_n C.1 C.2.1 dX4_become_187 rfl (lv_at hl 2 rfl) ?_
      refine va_get (D := D) (ci := 4) (v := .int (I2 23)) (C := RX4) (T := TX4) (N := 14) C.1 C.2.1 C.2.2.2.2.1 inlX4 C.2.2.2.1 hK hP 19 rfl rfl 13 (by decide) (C.2.2.2.2.1 _ fl_X4_60) (fun _ h => h) rfl dX4_become_188 ?_
      refine va_put (D := D) (ci := 4) (ty := .int) (C := RX4) (T := TX4) (N := 14) C.1 C.2.1 C.2.2.2.2.1 inlX4 tyX4 tyX4_ok nmX4 C.2.2.2.1 hK hP hD hS 0 rfl rfl 13 (by decide) (C.2.2.2.2.1 _ fl_X4_60) (fun _ h => h) rfl (by decide +kernel) rfl rfl (Nat.le_of_ble_eq_true rfl) dX4_become_191 (fun H locs hP hD hS => ?_)
      have hP : va_P D vwCl (SW cy q1 (bcT 8 tx1 tx2) (upd II 23 (I2 23)) AA ++ (SW cy q2 tx2 I2 A2 ++ tl)) H := hP
      have hD : va_D P0 (SW cy q1 (bcT 8 tx1 tx2) (upd II 23 (I2 23)) AA ++ (SW cy q2 tx2 I2 A2 ++ tl)) := hD
      rw [eAA, eII] at hP hD
      exact W.vret C.1 C.2.1 C.2.2.2.2.2.1 (fun t ht _ => ⟨⟨rfl, by rw [ht]; exact hP, hD⟩, hS.F ht⟩) hS.2.2 dX4_become_194 (hlocks := C.2.2.2.2.2.2)
    | succ k ih =>
      intro i H locs ls hi hP hD hS hl
      have hin : i < 8 := by omega
      refine lv_iload_n C.1 C.2.1 dX4_become_162 rfl (lv_at hl 0 rfl) ?_
      refine lv_bipush (v := 8) C.1 C.2.1 dX4_become_163 (by decide) ?_
      refine lv_icmp_ge (tgt := 186) C.1 C.2.1 dX4_become_165 (by decide) (fun cn => absurd cn (nI_ge hin (by decide))) (fun cn => ?_)
      refine lv_aload_n C.1 C.2.1 dX4_become_168 rfl (lv_at hl 1 rfl) ?_
      refine va_get (D := D) (ci := 4) (v := .ref (q1 22)) (C := RX4) (T := TX4) (N := 14) C.1 C.2.1 C.2.2.2.2.1 inlX4 C.2.2.2.1 hK hP 0 rfl rfl 12 (by decide) (C.2.2.2.2.1 _ fl_X4_56) (fun _ h => h) rfl dX4_become_169 ?_
      refine lv_iload_n C.1 C.2.1 dX4_become_172 rfl (lv_at hl 0 rfl) ?_
      refine lv_aload_n C.1 C.2.1 dX4_become_173 rfl (lv_at hl 2 rfl) ?_
      refine va_get (D := D) (ci := 4) (v := .ref (q2 22)) (C := RX4) (T := TX4) (N := 14) C.1 C.2.1 C.2.2.2.2.1 inlX4 C.2.2.2.1 hK hP 19 rfl rfl 12 (by decide) (C.2.2.2.2.1 _ fl_X4_56) (fun _ h => h) rfl dX4_become_174 ?_
      refine lv_iload_n C.1 C.2.1 dX4_become_177 rfl (lv_at hl 0 rfl) ?_
      refine va_aldq (D := D) (C := "CornerWinds$Text") C.1 C.2.1 hK hP 32 5 rfl rfl (vp_in_nI hin (by decide)) dX4_become_178 ?_
      rw [nI_clamp (show i < 2 ^ 31 by omega)]
      have KN : ∀ (H : Heap) (locs : List Loc), va_P D vwCl (SW cy q1 (bcT (i + 1) tx1 tx2) II AA ++ (SW cy q2 tx2 I2 A2 ++ tl)) H → va_D P0 (SW cy q1 (bcT (i + 1) tx1 tx2) II AA ++ (SW cy q2 tx2 I2 A2 ++ tl)) → va_S P0 s.heap H locs → W p l e (rmL 2) s m args below meth c H locs 0 0 (MQ below (fun _ st oc t => (oc = .returned none ∧ va_P D vwCl (SW cy q1 (bcT 8 tx1 tx2) (bcI I1 I2) (bcA A1 A2 I2) ++ (SW cy q2 tx2 I2 A2 ++ tl)) t.heap ∧ va_D P0 (SW cy q1 (bcT 8 tx1 tx2) (bcI I1 I2) (bcA A1 A2 I2) ++ (SW cy q2 tx2 I2 A2 ++ tl))) ∧ va_F P0 st t) args s 0 0 P0) (F0 m 180 ls []) := by
        intro H locs hP hD hS
        refine lv_iinc (v := nI (i + 1)) (lv' := [(2, .int (nI (i + 1))), (0, .ref (q1 0)), (1, .ref (q2 0))]) C.1 C.2.1 dX4_become_180 hl (k := 0) rfl (by rw [nI_succ]; rfl) (by decide) rfl (fun ls hl => ?_)
        refine lv_goto (tgt := 162) C.1 C.2.1 dX4_become_183 (by decide) ?_
        exact ih (i + 1) H locs ls (by omega) hP hD hS hl
      have es := bcT_s i tx1 tx2
      cases htv : tx2 i with
      | none =>
        rw [htv] at es
        refine va_astqN (D := D) (C := "CornerWinds$Text") C.1 C.2.1 hK hP hD hS 13 5 rfl rfl (vp_in_nI hin (by decide)) dX4_become_179 (fun H locs hP hD hS => ?_)
        rw [nI_clamp (show i < 2 ^ 31 by omega), es] at hP hD
        exact KN H locs hP hD hS
      | some v =>
        rw [htv] at es
        obtain ⟨vs, hm⟩ := htx i v hin htv
        obtain ⟨kq, hkq⟩ := List.getElem?_of_mem (List.mem_append_right (SW cy q1 (bcT i tx1 tx2) II AA) (List.mem_append_right (SW cy q2 tx2 I2 A2) hm))
        refine va_astq (D := D) C.1 C.2.1 hK hP hD hS 13 5 kq 6 rfl (r := (RX6, TX6, 2)) rfl hkq rfl (vp_in_nI hin (by decide)) dX4_become_179 (fun H locs hP hD hS => ?_)
        rw [nI_clamp (show i < 2 ^ 31 by omega), es] at hP hD
        exact KN H locs hP hD hS
  have e0 : bcT 0 tx1 tx2 = tx1 := by funext j; simp [bcT]
  exact KL 8 0 H locs ls rfl (by rw [e0]; exact hP) (by rw [e0]; exact hD) hS hl
