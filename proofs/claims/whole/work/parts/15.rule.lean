
section CR
variable {p : Program} {l : Launch} {e : Env} {s : State} {m : MethodId} {args : Array Value} {below : List Frame} {meth : Method} {c : Code} {H H0 : Heap} {locs : List Loc} {cells slots h h' n idx nL maxL : Nat} {Q : State → Prop} {cc bytes : ByteArray} {pc : Nat} {ls : Array Slot} {rest As st0 : List Value} {ret ret' : Option FieldType} {y : MethodName} {R : Room} {own Cn : String} {b : Addr}
variable {D : va_G} {cy : Nat → ClassId} {P0 : Nat → Prop} {q z : Nat → Nat} {tl : va_W} {xx xx2 : (Nat → Option Nat) × (Nat → Option Nat) × Nat} {I I2 : Nat → Int32} {J J2 : Nat → Int64} {A A2 : Nat → Nat → Int32} {B B2 : Nat → Nat → Int64}
/-- a call, in any room -/
theorem C_callR {r : Option Value} (C : Cx p s m args meth c cc nL own ret) (hI : CI D cy s P0 s.heap H locs q z tl xx I J A B) (hM : McC l y bytes maxL ret' h' (.ref b :: As) D cy P0 q z tl xx I J A B r xx2 I2 J2 A2 B2) (hrv : ∃ cell : Cell, H[b]? = some cell ∧ cell.vm.isStatics = false ∧ s.vm.findClass Cn = some cell.cls) (w1 : Cond.methodLink own idx y ∈ WT) (w2 : Cond.instanceMethod y ∈ WT) (w3 : Cond.selects Cn y y ∈ WT) (w4 : Cond.initialized y.cls ∈ WT) (w5 : Cond.code y bytes maxL ret' ∈ WT)
    (hy : (y.cls ≠ "java/lang/invoke/MethodHandle" ∧ y.cls ≠ "java/lang/invoke/VarHandle") ∧ (parseMethodDescriptor y.desc).map (fun d => d.parameters.length) = some n) (hn : As.length = n) (hR : h' + 1 ≤ R.frames ∧ 8 + (maxL + 11) + 60 * h' ≤ R.locals ∧ cells ≤ R.cells ∧ slots ≤ R.slots)
    (hsz : ls.size = nL) (hst : st0 = As.reverse ++ .ref b :: rest) (hW : (rest.map fun v => v.category).sum ≤ 8) (hd : decode cc pc = .ok (.invokevirtual idx, 3))
    (kk : ∀ (H1 : Heap) (locs1 : List Loc), CI D cy s P0 s.heap H1 locs1 q z tl xx2 I2 J2 A2 B2 → W p l e R s m args below meth c H1 locs1 cells slots Q (F0 m (pc + 3) ls (r.toList ++ rest))) :
    W p l e R s m args below meth c H locs cells slots Q (F0 m pc ls st0) := by
  obtain ⟨hK, hP, hD, hS, hF⟩ := hI
  have hr := run_V (l := l) (e := e) (below := below) (H := H) (locs := locs) (cells := cells) (slots := slots) (R := R) (rm := rmL h') (C := Cn) (b := b) C hM (wt_callB (rm := rmL h') C w1 w4 w5 rfl rfl hy ⟨hR.1, hR.2.1⟩) w2 w3
    ⟨fun a U g mk z => by
      obtain ⟨z0, z1, z2, z3, z4⟩ := z
      exact ⟨z0, va_K.moved (u := U) (U := U.calling g mk a) (Vm.Alike.refl U.vm) z1, z2, z3, SF.same (u := U) (U := U.calling g mk a) rfl z4⟩, hrv, fun U hU hW => ⟨rfl, va_K.moved hW.alike hK, by rw [hU]; exact hP, hD, by rw [hU]; exact SF.warm hW (hF.kept (fun a h1 h2 => hS.2.1 a h1 h2))⟩⟩ hn hsz hst hW hd ⟨hR.2.2.1, hR.2.2.2⟩
  intro T hT X
  obtain ⟨v, st₀, t, T', L, h0, X', hL, e1, e2, ⟨⟨hv, hP1, hD1⟩, hz, hk⟩, st⟩ := hr T hT X
  cases hv
  rw [h0] at hz hk
  obtain ⟨t2, a1, b1⟩ := kk T'.heap (locs ++ L) ⟨hK, by rw [e1]; exact hP1, hD1, ⟨Nat.le_trans hS.1 (by rw [e1]; exact hz), fun x h1 h2 => by rw [e1, hk x (Nat.lt_of_lt_of_le h1 hS.1) h2]; exact hS.2.1 x h1 h2, fun x hx => by
      rcases List.mem_append.mp hx with h | h
      · exact hS.2.2 x h
      · exact hL x h⟩, hF⟩ T' rfl X'
  exact ⟨t2, st t2 a1, b1⟩
theorem c_minR (C : Cx p s m args meth c cc nL own ret) (hsz : ls.size = nL) (w1 : Cond.methodLink own idx Lib.Math.min.name ∈ WT) (hR : 1 ≤ R.frames ∧ 60 ≤ R.locals ∧ cells ≤ R.cells ∧ slots ≤ R.slots) (hW : (rest.map fun v => v.category).sum ≤ 8) {x y : Int32} (hd : decode cc pc = .ok (.invokestatic idx, 3)) (kk : W p l e R s m args below meth c H locs cells slots Q (F0 m (pc + 3) ls (.int (if y < x then y else x) :: rest))) : W p l e R s m args below meth c H locs cells slots Q (F0 m pc ls (.int y :: .int x :: rest)) :=
  va_mmin C.1 C.2.1 (C.2.2.1.trans hsz.symm) C.2.2.2.1 (C.2.2.2.2.1 _ w1) (C.2.2.2.2.1 _ st_Lib_Math_min_name) (C.2.2.2.2.1 _ ini_java_lang_Math) (C.2.2.2.2.1 _ co_Lib_Math_min_name) hR.1 (by have := hR.2.1; omega) hR.2.2.1 hR.2.2.2 hd kk
theorem cp_X3_81 (C : Cx p s m args meth c cc nL RX3 ret) (hI : CI D cy s P0 s.heap H locs q z tl xx I J A B) (hd : decode cc pc = .ok (.putfield 15, 3)) (kk : ∀ (H1 : Heap) (locs1 : List Loc), CI D cy s P0 s.heap H1 locs1 q z tl (xx.1, xx.2.1, q 6) I J A B → W p l e R s m args below meth c H1 locs1 cells slots Q (F0 m (pc + 3) ls rest)) : W p l e R s m args below meth c H locs cells slots Q (F0 m pc ls (.ref (q 6) :: .ref (q 4) :: rest)) :=
  va_put (D := D) (ci := 3) (ty := .array .int) (C := RX3) (T := TX3) (N := 11) C.1 C.2.1 C.2.2.2.2.1 inlX3 tyX3 tyX3_ok nmX3 C.2.2.2.1 hI.1 hI.2.1 hI.2.2.1 hI.2.2.2.1 4 rfl rfl 1 (by decide) (C.2.2.2.2.1 _ fl_X3_15) (fun _ h => h) rfl (by decide +kernel) rfl rfl (Nat.le_of_ble_eq_true rfl) hd (fun H1 locs1 h1 h2 h3 => kk H1 locs1 ⟨hI.1, h1, h2, h3, hI.2.2.2.2⟩)
theorem cl_6 (C : Cx p s m args meth c cc nL own ret) (hI : CI D cy s P0 s.heap H locs q z tl xx I J A B) (hd : decode cc pc = .ok (.arraylength, 1)) (kk : W p l e R s m args below meth c H locs cells slots Q (F0 m (pc + 1) ls (.int 400 :: rest))) : W p l e R s m args below meth c H locs cells slots Q (F0 m pc ls (.ref (q 6) :: rest)) :=
  va_alen (D := D) C.1 C.2.1 hI.1 hI.2.1 12 1 rfl rfl rfl hd kk
def lenOK (v : Int32) (n : Nat) : Bool := decide (¬ v < 0) && decide (ix v ≤ n)
theorem lenOK_e {v : Int32} {n : Nat} (h : lenOK v n = true) : ¬ v < 0 ∧ ix v ≤ n := by simpa [lenOK] using h
/-- what read leaves: no text, or one that holds the clauses and the code as read -/
abbrev rQ (D : va_G) (cy : Nat → ClassId) (P0 : Nat → Prop) (q : Nat → Nat) (tl : va_W) (r : Int32) (xx : (Nat → Option Nat) × (Nat → Option Nat) × Nat) (I : Nat → Int32) (J : Nat → Int64) (A : Nat → Nat → Int32) (B : Nat → Nat → Int64) : Array Value → State → Outcome → State → Prop := fun _ st oc t =>
  (∃ (v : Option Nat) (tn : va_W), ((r = 0 ∧ v = none ∧ tn = []) ∨ (r = 1 ∧ ∃ (ta tb tc : Nat) (fb fc : Nat → Int32), v = some ta ∧ tn = TC cy ta tb tc (ix (I 88 * 4)) (ix (I 90)) fb fc ∧ (∀ j, j < ix (I 88 * 4) → fb j = A 87 j) ∧ ∀ j, j < ix (I 90) → fc j = A 89 j)) ∧ oc = .returned (some (va_rf v)) ∧ va_P D vwCl (CW cy q xx I J A B ++ (tn ++ tl)) t.heap ∧ va_D P0 (CW cy q xx I J A B ++ (tn ++ tl))) ∧ va_F P0 st t
theorem rd_null (C : Cx p s m args meth c cc nL own (some (.object "CornerWinds$Text"))) (hI : CI D cy s P0 s.heap H locs q z tl xx I J A B) (hd : decode cc pc = .ok (.areturn, 1)) :
    W p l e (rmN h 3 850) s m args below meth c H locs 0 0 (MQ below (rQ D cy P0 q tl 0 xx I J A B) args s 3 850 P0) (F0 m pc ls [.null]) :=
  W.widen (Nat.zero_le 3) (Nat.zero_le 850) (W.aret C.1 C.2.1 C.2.2.2.2.2.1 (Or.inl ⟨_, rfl⟩) (Or.inl rfl) (fun t ht _ => ⟨⟨none, [], Or.inl ⟨rfl, rfl, rfl⟩, rfl, by rw [ht]; exact hI.2.1, hI.2.2.1⟩, hI.2.2.2.1.F ht⟩) hI.2.2.2.1.2.2 hd (hlocks := C.2.2.2.2.2.2))
/-- a call of copyOf on one of the class's rows -/
theorem w_copyOf {ws : va_W} {tys : List (ClassId × FieldType)} {a p0 t0 : Nat} {cA : ClassId} {f : Nat → Int32} {k : Int32} (C : Cx p s m args meth c cc nL own ret) (hK : va_K D vwCl tys s) (hP : va_P D vwCl ws H) (hD : va_D P0 ws) (hS : va_S P0 s.heap H locs) (hC : NC s) (hA : ∀ x, s.heap.size ≤ x → P0 x) (w1 : Cond.methodLink own idx yJ7_copyOf_59c91 ∈ WT) (hR : 2 ≤ R.frames ∧ 120 ≤ R.locals ∧ cells + 1 ≤ R.cells ∧ slots + 400 ≤ R.slots) (hsz : ls.size = nL) (hW : (rest.map fun v => v.category).sum ≤ 8)
    (hp : ws[p0]? = some (a, .inl (cA, n, .inl f))) (ht : tys[t0]? = some (cA, .int)) (hk0 : ¬ k < 0) (hkn : ix k ≤ n) (hn : n ≤ 400) (hd : decode cc pc = .ok (.invokestatic idx, 3))
    (kk : ∀ (r : Nat) (g : Nat → Int32) (H1 : Heap) (locs1 : List Loc), (∀ j, j < ix k → g j = f j) → va_P D vwCl (ws ++ [(r, .inl (cA, ix k, .inl g))]) H1 → va_D P0 (ws ++ [(r, .inl (cA, ix k, .inl g))]) → va_S P0 s.heap H1 locs1 → W p l e R s m args below meth c H1 locs1 (cells + 1) (slots + 400) Q (F0 m (pc + 3) ls (.ref r :: rest))) :
    W p l e R s m args below meth c H locs cells slots Q (F0 m pc ls (.int k :: .ref a :: rest)) := by
  have hr := run_S (l := l) (e := e) (below := below) (H := H) (locs := locs) (cells := cells) (slots := slots) (R := R) (rm := rmN 1 1 400) (rest := rest) (As := [.ref a, .int k]) C (kJ7_copyOf l D P0 tys ws p0 t0 a n cA f k hp ht hk0 hkn hn) (wt_callB (rm := rmN 1 1 400) C w1 ini_J7 co_J7_copyOf_59c91 rfl rfl hyJ7_copyOf_59c91 ⟨hR.1, by show 8 + (3 + 11) + 60 * 1 ≤ R.locals; have := hR.2.1; omega⟩) st_J7_copyOf_59c91
    ⟨fun a U g mk z => by
      obtain ⟨z0, z1, z2, z3, z4, z5⟩ := z
      exact ⟨z0, va_K.moved (u := U) (U := U.calling g mk a) (Vm.Alike.refl U.vm) z1, z2, z3, va_Nw.same (u := U) (U := U.calling g mk a) rfl rfl z4, z5⟩, fun U hU hW => ⟨rfl, va_K.moved hW.alike hK, by rw [hU]; exact hP, hD, va_Nw.warmC hW hC, fun x hx => hA x (by rw [hU] at hx; exact Nat.le_trans hS.1 hx)⟩⟩ rfl hsz rfl hW hd ⟨hR.2.2.1, hR.2.2.2⟩
  intro T hT X
  obtain ⟨v, st₀, t, T', L, h0, X', hL, e1, e2, ⟨⟨r, g, hv, hg, hP1, hD1⟩, hz, hk⟩, st⟩ := hr T hT X
  cases hv
  rw [h0] at hz hk
  obtain ⟨t2, a1, b1⟩ := kk r g T'.heap (locs ++ L) hg (by rw [e1]; exact hP1) hD1 ⟨Nat.le_trans hS.1 (by rw [e1]; exact hz), fun x h1 h2 => by rw [e1, hk x (Nat.lt_of_lt_of_le h1 hS.1) h2]; exact hS.2.1 x h1 h2, fun x hx => by
      rcases List.mem_append.mp hx with h | h
      · exact hS.2.2 x h
      · exact hL x h⟩ T' rfl X'
  exact ⟨t2, st t2 a1, b1⟩
end CR

set_option maxRecDepth 100000 in
set_option maxHeartbeats 8000000 in
/-- read's end with a text -/
theorem rd_text {p : Program} {l : Launch} {e : Env} {s : State} {m : MethodId} {args : Array Value} {below : List Frame} {meth : Method} {c : Code} {H : Heap} {locs : List Loc} {ls : Array Slot} {D : va_G} {cy : Nat → ClassId} {P0 : Nat → Prop} {q z : Nat → Nat} {tl : va_W} {xx : (Nat → Option Nat) × (Nat → Option Nat) × Nat} {I : Nat → Int32} {J : Nat → Int64} {A : Nat → Nat → Int32} {B : Nat → Nat → Int64}
    (C : Cx p s m args meth c cX3_read 4 RX3 (some (.object "CornerWinds$Text"))) (hI : CI D cy s P0 s.heap H locs q z tl xx I J A B) (hF : NX P0 s s.heap z) (hC : NC s) (hA : ∀ x, s.heap.size ≤ x → P0 x) (hl : lv_has ls 4 [(0, .ref (q 4))]) (h1 : lenOK (I 88 * 4) 48 = true) (h2 : lenOK (I 90) 400 = true) :
    W p l e (rmN 91 3 850) s m args below meth c H locs 0 0 (MQ below (rQ D cy P0 q tl 1 xx I J A B) args s 3 850 P0) (F0 m 64 ls []) := by
  obtain ⟨k1, k2⟩ := lenOK_e h1
  obtain ⟨k3, k4⟩ := lenOK_e h2
  obtain ⟨hK, hP, hD, hS, hSF⟩ := hI
  refine w_new (a := CW cy q xx I J A B) (ci := 6) (fs := [.null, .null]) C inlX6 tyX6_ok cl_X3_34 ins_X6 ini_X6 hK hP hD hS hA rfl (by decide) (by decide) (by decide) dX3_read_64 (fun ta H hP hD hS => ?_)
  rw [List.append_assoc] at hP hD
  have hI : CI D cy s P0 s.heap H locs q z ([(ta, .inr (6, [.null, .null]))] ++ tl) xx I J A B := ⟨hK, hP, hD, hS, hSF⟩
  refine lv_dup C.1 C.2.1 dX3_read_67 rfl ?_
  refine lv_aload_n C.1 C.2.1 dX3_read_68 rfl (lv_at hl 0 rfl) ?_
  refine cg_X3_87 C hI dX3_read_69 ?_
  refine lv_aload_n C.1 C.2.1 dX3_read_72 rfl (lv_at hl 0 rfl) ?_
  refine cg_X3_88 C hI dX3_read_73 ?_
  refine lv_iconst (v := 4) C.1 C.2.1 dX3_read_76 (by decide) ?_
  refine lv_imul C.1 C.2.1 dX3_read_77 ?_
  refine w_copyOf (p0 := 44) (t0 := 1) C hK hP hD hS hC hA ml_X3_61 ⟨by decide, by decide, by decide, by decide⟩ hl.1 (Nat.le_of_ble_eq_true rfl) rfl rfl k1 k2 (by decide) dX3_read_78 (fun tb fb H locs hb hP hD hS => ?_)
  simp only [List.append_assoc] at hP hD
  have hP := vaP_swap (a := CW cy q xx I J A B ++ [(ta, .inr (6, [.null, .null]))]) (b := tl) (c := [(tb, .inl (cy 1, ix (I 88 * 4), .inl fb))]) (d := []) (by simpa only [List.append_assoc, List.append_nil] using hP)
  have hD := vaD_swap (a := CW cy q xx I J A B ++ [(ta, .inr (6, [.null, .null]))]) (b := tl) (c := [(tb, .inl (cy 1, ix (I 88 * 4), .inl fb))]) (d := []) (by simpa only [List.append_assoc, List.append_nil] using hD)
  simp only [List.append_assoc, List.append_nil] at hP hD
  have hI : CI D cy s P0 s.heap H locs q z ([(ta, .inr (6, [.null, .null]))] ++ ([(tb, .inl (cy 1, ix (I 88 * 4), .inl fb))] ++ tl)) xx I J A B := ⟨hK, hP, hD, hS, hSF⟩
  refine lv_aload_n C.1 C.2.1 dX3_read_81 rfl (lv_at hl 0 rfl) ?_
  refine cg_X3_89 C hI dX3_read_82 ?_
  refine lv_aload_n C.1 C.2.1 dX3_read_85 rfl (lv_at hl 0 rfl) ?_
  refine cg_X3_90 C hI dX3_read_86 ?_
  refine w_copyOf (p0 := 45) (t0 := 1) C hK hP hD hS hC hA ml_X3_61 ⟨by decide, by decide, by decide, by decide⟩ hl.1 (Nat.le_of_ble_eq_true rfl) rfl rfl k3 k4 (by decide) dX3_read_89 (fun tc fc H locs hc hP hD hS => ?_)
  simp only [List.append_assoc] at hP hD
  have hP := vaP_swap (a := CW cy q xx I J A B ++ ([(ta, .inr (6, [.null, .null]))] ++ [(tb, .inl (cy 1, ix (I 88 * 4), .inl fb))])) (b := tl) (c := [(tc, .inl (cy 1, ix (I 90), .inl fc))]) (d := []) (by simpa only [List.append_assoc, List.append_nil] using hP)
  have hD := vaD_swap (a := CW cy q xx I J A B ++ ([(ta, .inr (6, [.null, .null]))] ++ [(tb, .inl (cy 1, ix (I 88 * 4), .inl fb))])) (b := tl) (c := [(tc, .inl (cy 1, ix (I 90), .inl fc))]) (d := []) (by simpa only [List.append_assoc, List.append_nil] using hD)
  simp only [List.append_assoc, List.append_nil] at hP hD
  have hP := vaP_swap (a := []) (b := CW cy q xx I J A B) (c := [(ta, .inr (6, [.null, .null]))]) (d := [(tb, .inl (cy 1, ix (I 88 * 4), .inl fb))] ++ ([(tc, .inl (cy 1, ix (I 90), .inl fc))] ++ tl)) hP
  have hD := vaD_swap (a := []) (b := CW cy q xx I J A B) (c := [(ta, .inr (6, [.null, .null]))]) (d := [(tb, .inl (cy 1, ix (I 88 * 4), .inl fb))] ++ ([(tc, .inl (cy 1, ix (I 90), .inl fc))] ++ tl)) hD
  refine N_call (pre := [(ta, .inr (6, [.null, .null]))]) (tl := CW cy q xx I J A B ++ ([(tb, .inl (cy 1, ix (I 88 * 4), .inl fb))] ++ ([(tc, .inl (cy 1, ix (I 90), .inl fc))] ++ tl))) (As := [.ref tb, .ref tc]) C hK hP hD hS hF hA (kX6_init l D cy P0 z _ ta tb tc) ml_X3_67 im_X6_init ini_X6 co_X6_init hyX6_init rfl rfl ⟨by decide, by decide⟩ hl.1 rfl (Nat.le_of_ble_eq_true rfl) dX3_read_92 ⟨by decide, by decide⟩ (fun H locs ws hw hP hD hS => ?_)
  subst hw
  have hP := vaP_swap (a := []) (b := [(ta, .inr (6, [.ref tb, .ref tc]))]) (c := CW cy q xx I J A B) (d := [(tb, .inl (cy 1, ix (I 88 * 4), .inl fb))] ++ ([(tc, .inl (cy 1, ix (I 90), .inl fc))] ++ tl)) hP
  have hD := vaD_swap (a := []) (b := [(ta, .inr (6, [.ref tb, .ref tc]))]) (c := CW cy q xx I J A B) (d := [(tb, .inl (cy 1, ix (I 88 * 4), .inl fb))] ++ ([(tc, .inl (cy 1, ix (I 90), .inl fc))] ++ tl)) hD
  have hP : va_P D vwCl (CW cy q xx I J A B ++ (TC cy ta tb tc (ix (I 88 * 4)) (ix (I 90)) fb fc ++ tl)) H := hP
  have hD : va_D P0 (CW cy q xx I J A B ++ (TC cy ta tb tc (ix (I 88 * 4)) (ix (I 90)) fb fc ++ tl)) := hD
  refine W.widen (k := 3) (n := 850) (by decide) (by decide) ?_
  exact W.aret C.1 C.2.1 C.2.2.2.2.2.1 (Or.inl ⟨_, rfl⟩) (Or.inr ⟨_, rfl⟩) (fun t ht _ => ⟨⟨some ta, TC cy ta tb tc (ix (I 88 * 4)) (ix (I 90)) fb fc, Or.inr ⟨rfl, ta, tb, tc, fb, fc, rfl, rfl, hb, hc⟩, rfl, by rw [ht]; exact hP, hD⟩, hS.F ht⟩) hS.2.2 dX3_read_95 (hlocks := C.2.2.2.2.2.2)
def lX3_read_41 : Nat → Int32 → (Nat → Int32) → (Nat → Int64) → (Nat → Nat → Int32) → (Nat → Nat → Int64) → Option (((Nat → Int32) × (Nat → Nat → Int32)) ⊕ ((Nat → Int32) × (Nat → Nat → Int32)) ⊕ ((Nat → Int32) × (Nat → Nat → Int32)) ⊕ ((Nat → Int32) × (Nat → Nat → Int32)))
  | 0, _, _, _, _, _ => none
  | n + 1, x3, I, J, A, B =>
    if (12 : Int32) ≤ x3 then
    (some (.inr (.inr (.inr (I, A)))))
    else
    (sX3_readClause  I J A B).bind fun (r_48, I, A) =>
    if r_48 = 0 then
    (some (.inl (I, A)))
    else
    if (I 84) = (-1 : Int32) then
    (some (.inr (.inl (I, A))))
    else
    if (I 84) = (59 : Int32) then
    ((sX3_advance  I J A B).bind fun I =>
    gv (x3 + 1) fun x3_111 =>
    lX3_read_41 n x3_111 I J A B)
    else
    some (.inr (.inr (.inl (I, A))))
def sX3_read (x2 : Int32) (I : Nat → Int32) (J : Nat → Int64) (A : Nat → Nat → Int32) (B : Nat → Nat → Int64) : Option (Int32 × (Nat → Int32) × (Nat → Nat → Int32)) :=
gv (upd I 82 (if (400 : Int32) < x2 then (400 : Int32) else x2)) fun I =>
gv (upd I 83 (0 : Int32)) fun I =>
gv (upd I 86 (0 : Int32)) fun I =>
gv (upd I 88 (0 : Int32)) fun I =>
gv (upd I 90 (0 : Int32)) fun I =>
(sX3_advance  I J A B).bind fun I =>
(lX3_read_41 FU (0 : Int32) I J A B).bind fun o_41 => match o_41 with
| .inl (I, A) =>
some ((0 : Int32), I, A)
| .inr (.inl (I, A)) =>
ck (lenOK ((I 88) * (4 : Int32)) 48) <|
ck (lenOK (I 90) 400) <|
some ((1 : Int32), I, A)
| .inr (.inr (.inl (I, A))) =>
some ((0 : Int32), I, A)
| .inr (.inr (.inr (I, A))) =>
some ((0 : Int32), I, A)
set_option maxRecDepth 100000 in
set_option maxHeartbeats 8000000 in
theorem kX3_read (l : Launch) (D : va_G) (cy : Nat → ClassId) (P0 : Nat → Prop) (q z : Nat → Nat) (tl : va_W) (xx : (Nat → Option Nat) × (Nat → Option Nat) × Nat) (x2 : Int32) (I : Nat → Int32) (J : Nat → Int64) (A : Nat → Nat → Int32) (B : Nat → Nat → Int64) (r : Int32) (I2 : Nat → Int32) (A2 : Nat → Nat → Int32) (hs : sX3_read x2 I J A B = some (r, I2, A2)) :
    Met l yX3_read (Cond.code yX3_read cX3_read 4 (some (.object "CornerWinds$Text")) :: WT) (rmN 91 3 850) (va_Pc [.ref (q 4), .ref (q 6), .int x2] (fun U => va_K D vwCl (tys6 cy) U ∧ va_P D vwCl (CW cy q xx I J A B ++ tl) U.heap ∧ va_D P0 (CW cy q xx I J A B ++ tl) ∧ NX P0 U U.heap z ∧ NC U ∧ ∀ x, U.heap.size ≤ x → P0 x)) (rQ D cy P0 q tl r (xx.1, xx.2.1, q 6) I2 J A2 B) 3 850 P0 := by
  refine Met.ofW (cc := cX3_read) (maxL := 4) (ret := some (.object "CornerWinds$Text")) rfl rfl ?_
  intro p e s m args below meth c s₁ B0 hml hv
  obtain ⟨rfl, hK, hP, hD, hF, hC, hA⟩ := hv
  have hts := atoms_spec (ws := Cond.code yX3_read cX3_read 4 (some (.object "CornerWinds$Text")) :: WT) B0.pre
  have C : Cx p s m [Value.ref (q 4), Value.ref (q 6), Value.int x2].toArray meth c cX3_read 4 RX3 (some (.object "CornerWinds$Text")) := ⟨B0.exec, B0.bytes, hml, findClass_of_methodNamed B0.named, fun w hw => hts w (List.mem_cons_of_mem _ hw), B0.returns, B0.notSynchronized⟩
  have hI : CI D cy s P0 s.heap s.heap [] q z tl xx I J A B := ⟨hK, hP, hD, va_S.rf, hF.1⟩
  rw [lg_entry_eq]
  have hl := lv_entry [.ref (q 4), .ref (q 6), .int x2] (n := 4) (Nat.le_of_ble_eq_true rfl)
  generalize (lg_sl ([.ref (q 4), .ref (q 6), .int x2]) ++ List.replicate (4 - (lg_sl ([.ref (q 4), .ref (q 6), .int x2])).length) Slot.unset).toArray = ls at hl ⊢
  generalize [Value.ref (q 4), Value.ref (q 6), Value.int x2].toArray = args at C ⊢
  have hl : lv_has ls 4 [(0, .ref (q 4)), (1, .ref (q 6)), (2, .int x2)] := hl
  rw [sX3_read] at hs
  refine lv_aload_n C.1 C.2.1 dX3_read_0 rfl (lv_at hl 0 rfl) ?_
  refine lv_aload_n C.1 C.2.1 dX3_read_1 rfl (lv_at hl 1 rfl) ?_
  refine cp_X3_81 C hI dX3_read_2 (fun H locs hI => ?_)
  refine lv_aload_n C.1 C.2.1 dX3_read_5 rfl (lv_at hl 0 rfl) ?_
  refine lv_iload_n C.1 C.2.1 dX3_read_6 rfl (lv_at hl 2 rfl) ?_
  refine lv_aload_n C.1 C.2.1 dX3_read_7 rfl (lv_at hl 1 rfl) ?_
  refine cl_6 C hI dX3_read_8 ?_
  refine c_minR C hl.1 ml_X3_48 ⟨by decide, by decide, by decide, by decide⟩ (Nat.le_of_ble_eq_true rfl) dX3_read_9 ?_
  refine cp_X3_82 C hI dX3_read_12 (fun H locs hI => ?_)
  have hs := gv_be hs
  refine lv_aload_n C.1 C.2.1 dX3_read_15 rfl (lv_at hl 0 rfl) ?_
  refine lv_iconst (v := 0) C.1 C.2.1 dX3_read_16 (by decide) ?_
  refine cp_X3_83 C hI dX3_read_17 (fun H locs hI => ?_)
  have hs := gv_be hs
  refine lv_aload_n C.1 C.2.1 dX3_read_20 rfl (lv_at hl 0 rfl) ?_
  refine lv_iconst (v := 0) C.1 C.2.1 dX3_read_21 (by decide) ?_
  refine cp_X3_86 C hI dX3_read_22 (fun H locs hI => ?_)
  have hs := gv_be hs
  refine lv_aload_n C.1 C.2.1 dX3_read_25 rfl (lv_at hl 0 rfl) ?_
  refine lv_iconst (v := 0) C.1 C.2.1 dX3_read_26 (by decide) ?_
  refine cp_X3_88 C hI dX3_read_27 (fun H locs hI => ?_)
  have hs := gv_be hs
  refine lv_aload_n C.1 C.2.1 dX3_read_30 rfl (lv_at hl 0 rfl) ?_
  refine lv_iconst (v := 0) C.1 C.2.1 dX3_read_31 (by decide) ?_
  refine cp_X3_90 C hI dX3_read_32 (fun H locs hI => ?_)
  have hs := gv_be hs
  refine lv_aload_n C.1 C.2.1 dX3_read_35 rfl (lv_at hl 0 rfl) ?_
  obtain ⟨I, hc, hs⟩ := bd_e hs
  refine C_callR C hI (kX3_advance l D cy P0 q z tl xx _ _ _ _ _ hc) (rv_X3 hI) ml_X3_54 im_X3_advance se_X3_advance ini_X3 co_X3_advance hyX3_advance rfl ⟨by decide, by decide, by decide, by decide⟩ hl.1 rfl (Nat.le_of_ble_eq_true rfl) dX3_read_36 (fun H locs hI => ?_)
  refine lv_iconst (v := 0) C.1 C.2.1 dX3_read_39 (by decide) ?_
  refine lv_istore_n (lv' := [(3, .int (0 : Int32)), (0, .ref (q 4)), (1, .ref (q 6)), (2, .int x2)]) C.1 C.2.1 dX3_read_40 rfl hl (by decide) rfl (fun ls hl => ?_)
  have KL_41 : ∀ (n : Nat) (x3 : Int32) (I : Nat → Int32) (J : Nat → Int64) (A : Nat → Nat → Int32) (B : Nat → Nat → Int64) (o : ((Nat → Int32) × (Nat → Nat → Int32)) ⊕ ((Nat → Int32) × (Nat → Nat → Int32)) ⊕ ((Nat → Int32) × (Nat → Nat → Int32)) ⊕ ((Nat → Int32) × (Nat → Nat → Int32))) (Q : State → Prop) (H : Heap) (locs : List Loc) (ls : Array Slot), lX3_read_41 n x3 I J A B = some o → CI D cy s P0 s.heap H locs q z tl (xx.1, xx.2.1, q 6) I J A B → lv_has ls 4 [(0, .ref (q 4)), (3, .int x3)] → (∀ (I_0 : Nat → Int32) (A_0 : Nat → Nat → Int32) (H : Heap) (locs : List Loc) (ls : Array Slot), o = (.inl (I_0, A_0)) → CI D cy s P0 s.heap H locs q z tl (xx.1, xx.2.1, q 6) I_0 J A_0 B → lv_has ls 4 [] → W p l e (rmN 91 3 850) s m args below meth c H locs 0 0 Q (F0 m 54 ls [])) → (∀ (I_1 : Nat → Int32) (A_1 : Nat → Nat → Int32) (H : Heap) (locs : List Loc) (ls : Array Slot), o = (.inr (.inl (I_1, A_1))) → CI D cy s P0 s.heap H locs q z tl (xx.1, xx.2.1, q 6) I_1 J A_1 B → lv_has ls 4 [(0, .ref (q 4))] → W p l e (rmN 91 3 850) s m args below meth c H locs 0 0 Q (F0 m 64 ls [])) → (∀ (I_2 : Nat → Int32) (A_2 : Nat → Nat → Int32) (H : Heap) (locs : List Loc) (ls : Array Slot), o = (.inr (.inr (.inl (I_2, A_2)))) → CI D cy s P0 s.heap H locs q z tl (xx.1, xx.2.1, q 6) I_2 J A_2 B → lv_has ls 4 [] → W p l e (rmN 91 3 850) s m args below meth c H locs 0 0 Q (F0 m 105 ls [])) → (∀ (I_3 : Nat → Int32) (A_3 : Nat → Nat → Int32) (H : Heap) (locs : List Loc) (ls : Array Slot), o = (.inr (.inr (.inr (I_3, A_3)))) → CI D cy s P0 s.heap H locs q z tl (xx.1, xx.2.1, q 6) I_3 J A_3 B → lv_has ls 4 [] → W p l e (rmN 91 3 850) s m args below meth c H locs 0 0 Q (F0 m 117 ls [])) → W p l e (rmN 91 3 850) s m args below meth c H locs 0 0 Q (F0 m 41 ls []) := by
    intro n; induction n with
    | zero => intro x3 I J A B o Q H locs ls hs; rw [lX3_read_41] at hs; cases hs
    | succ n ih =>
      intro x3 I J A B o Q H locs ls hs hI hl kk0 kk1 kk2 kk3
      rw [lX3_read_41] at hs
      refine lv_iload_n C.1 C.2.1 dX3_read_41 rfl (lv_at hl 1 rfl) ?_
      refine lv_bipush (v := 12) C.1 C.2.1 dX3_read_42 (by decide) ?_
      refine lv_icmp_ge (tgt := 117) C.1 C.2.1 dX3_read_44 (by decide) (fun cn => ?_) (fun cn => ?_)
      · have hs := if_t cn hs
        have eo := (Option.some.inj hs).symm
        exact kk3 _ _ _ _ _ eo hI (lv_sub hl [] rfl)
      · have hs := if_f cn hs
        refine lv_aload_n C.1 C.2.1 dX3_read_47 rfl (lv_at hl 0 rfl) ?_
        obtain ⟨⟨r_48, I, A⟩, hc, hs⟩ := bd_e hs
        refine C_callR C hI (kX3_readClause l D cy P0 q z tl xx _ _ _ _ _ _ _ hc) (rv_X3 hI) ml_X3_57 im_X3_readClause se_X3_readClause ini_X3 co_X3_readClause hyX3_readClause rfl ⟨by decide, by decide, by decide, by decide⟩ hl.1 rfl (Nat.le_of_ble_eq_true rfl) dX3_read_48 (fun H locs hI => ?_)
        refine lv_if_ne (tgt := 56) C.1 C.2.1 dX3_read_51 (by decide) (fun cn => ?_) (fun cn => ?_)
        · have hs := if_f cn hs
          refine lv_aload_n C.1 C.2.1 dX3_read_56 rfl (lv_at hl 0 rfl) ?_
          refine cg_X3_84 C hI dX3_read_57 ?_
          refine lv_iconst (v := -1) C.1 C.2.1 dX3_read_60 (by decide) ?_
          refine lv_icmp_ne (tgt := 96) C.1 C.2.1 dX3_read_61 (by decide) (fun cn => ?_) (fun cn => ?_)
          · have hs := if_f cn hs
            refine lv_aload_n C.1 C.2.1 dX3_read_96 rfl (lv_at hl 0 rfl) ?_
            refine cg_X3_84 C hI dX3_read_97 ?_
            refine lv_bipush (v := 59) C.1 C.2.1 dX3_read_100 (by decide) ?_
            refine lv_icmp_eq (tgt := 107) C.1 C.2.1 dX3_read_102 (by decide) (fun cn => ?_) (fun cn => ?_)
            · have hs := if_t cn hs
              refine lv_aload_n C.1 C.2.1 dX3_read_107 rfl (lv_at hl 0 rfl) ?_
              obtain ⟨I, hc, hs⟩ := bd_e hs
              refine C_callR C hI (kX3_advance l D cy P0 q z tl xx _ _ _ _ _ hc) (rv_X3 hI) ml_X3_54 im_X3_advance se_X3_advance ini_X3 co_X3_advance hyX3_advance rfl ⟨by decide, by decide, by decide, by decide⟩ hl.1 rfl (Nat.le_of_ble_eq_true rfl) dX3_read_108 (fun H locs hI => ?_)
              obtain ⟨x3_111, ex3_111⟩ : ∃ y : Int32, y = (x3 + 1) := ⟨_, rfl⟩
              have hs := gv_at ex3_111 hs
              refine lv_iinc (v := x3_111) (lv' := [(3, .int x3_111), (0, .ref (q 4))]) C.1 C.2.1 dX3_read_111 hl (k := 1) rfl (by rw [ex3_111]; rfl) (by decide) rfl (fun ls hl => ?_)
              refine lv_goto (tgt := 41) C.1 C.2.1 dX3_read_114 (by decide) ?_
              exact ih _ _ _ _ _ _ _ _ _ _ hs hI (lv_sub hl [1, 0] rfl) kk0 kk1 kk2 kk3
            · have hs := if_f cn hs
              have eo := (Option.some.inj hs).symm
              exact kk2 _ _ _ _ _ eo hI (lv_sub hl [] rfl)
          · have hs := if_t cn hs
            have eo := (Option.some.inj hs).symm
            exact kk1 _ _ _ _ _ eo hI (lv_sub hl [0] rfl)
        · have hs := if_t cn hs
          have eo := (Option.some.inj hs).symm
          exact kk0 _ _ _ _ _ eo hI (lv_sub hl [] rfl)
  obtain ⟨o_41, hL, hs⟩ := bd_e hs
  refine KL_41 FU _ _ _ _ _ _ _ _ _ _ hL hI (lv_sub hl [1, 0] rfl) (fun I A H locs ls eo hI hl => ?_) (fun I A H locs ls eo hI hl => ?_) (fun I A H locs ls eo hI hl => ?_) (fun I A H locs ls eo hI hl => ?_)
  · rw [eo] at hs
    refine lv_null C.1 C.2.1 dX3_read_54 ?_
    obtain ⟨rfl, rfl, rfl⟩ := so3 hs
    exact rd_null C hI dX3_read_55
  · rw [eo] at hs
    obtain ⟨h1, hs⟩ := ck_e hs
    obtain ⟨h2, hs⟩ := ck_e hs
    obtain ⟨rfl, rfl, rfl⟩ := so3 hs
    exact rd_text C hI hF hC hA (lv_sub hl [0] rfl) h1 h2
  · rw [eo] at hs
    refine lv_null C.1 C.2.1 dX3_read_105 ?_
    obtain ⟨rfl, rfl, rfl⟩ := so3 hs
    exact rd_null C hI dX3_read_106
  · rw [eo] at hs
    refine lv_null C.1 C.2.1 dX3_read_117 ?_
    obtain ⟨rfl, rfl, rfl⟩ := so3 hs
    exact rd_null C hI dX3_read_118
