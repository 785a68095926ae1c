
def fillA (n : Nat) (v : Int32) (f : Nat → Int32) : Nat → Int32 := fun j => if j < n then v else f j
/-- a world's cell is set, by a call that changed nothing else of it -/
theorem vaP_set {D : va_G} {cl : List vw_C} {P0 : Nat → Prop} {p : Nat} {ws : va_W} {a : Nat} {e0 e : va_E} {H H1 : Heap} (h : va_P D cl ws H) (hD : va_D P0 ws) (hp : ws[p]? = some (a, e0)) (he : va_at D cl (a, e) H1) (oq : ∀ x : Nat, x < H.size → x ≠ a → H1[x]? = H[x]?) : va_P D cl (ws.set p (a, e)) H1 := by
  have hl := (List.getElem?_eq_some_iff.mp hp).1
  intro k q hk
  by_cases hkp : k = p
  · subst hkp
    rw [List.getElem?_set_self hl] at hk
    cases hk
    exact he
  · rw [List.getElem?_set_ne (Ne.symm hkp)] at hk
    exact (h k q hk).kept (oq q.1 (h k q hk).lt (fun z => hkp (hD.1 k p q (a, e0) hk hp z)))
set_option maxRecDepth 100000 in
set_option maxHeartbeats 8000000 in
/-- Arrays.fill(int[], int) -/
theorem kJ7_fill (l : Launch) (D : va_G) (tys : List (ClassId × FieldType)) (a t0 n : Nat) (cA : ClassId) (f : Nat → Int32) (v : Int32) (hn : n < 2 ^ 31) (ht : tys[t0]? = some (cA, .int)) :
    Met l yJ7_fill_53178 (Cond.code yJ7_fill_53178 cJ7_fill_53178 4 none :: WT) (rmL 0) (va_Pc [.ref a, .int v] (fun U => va_K D vwCl tys U ∧ va_P D vwCl [(a, .inl (cA, n, .inl f))] U.heap ∧ va_D (fun x => x = a) [(a, .inl (cA, n, .inl f))]))
      (fun _ st oc t => (oc = .returned none ∧ va_P D vwCl [(a, .inl (cA, n, .inl (fillA n v f)))] t.heap) ∧ va_F (fun x => x = a) st t) 0 0 (fun x => x = a) := by
  refine Met.ofW (cc := cJ7_fill_53178) (maxL := 4) (ret := none) rfl rfl ?_
  intro p e s m args below meth c s₁ B0 hml hv
  obtain ⟨rfl, hK, hP, hD⟩ := hv
  have hx := B0.exec
  have hb := B0.bytes
  have hr := B0.returns
  have hlocks := B0.notSynchronized
  have hS : va_S (fun x => x = a) s.heap s.heap [] := va_S.rf
  rw [lg_entry_eq]
  have hl := lv_entry [.ref a, .int v] (n := 4) (Nat.le_of_ble_eq_true rfl)
  generalize (lg_sl ([.ref a, .int v]) ++ List.replicate (4 - (lg_sl ([.ref a, .int v])).length) Slot.unset).toArray = ls at hl ⊢
  have hl : lv_has ls 4 [(0, .ref a), (1, .int v)] := hl
  refine lv_iconst (v := 0) hx hb dJ7_fill_53178_0 (by decide) ?_
  refine lv_istore_n (lv' := [(2, .int 0), (0, .ref a), (1, .int v)]) hx hb dJ7_fill_53178_1 rfl hl (by decide) rfl (fun ls hl => ?_)
  refine lv_aload_n hx hb dJ7_fill_53178_2 rfl (lv_at hl 1 rfl) ?_
  refine va_alen (D := D) hx hb hK hP 0 t0 rfl ht rfl dJ7_fill_53178_3 ?_
  refine lv_istore_n (lv' := [(3, .int (nI n)), (2, .int 0), (0, .ref a), (1, .int v)]) hx hb dJ7_fill_53178_4 rfl hl (by decide) rfl (fun ls hl => ?_)
  have key : ∀ (d i : Nat) (H : Heap) (locs : List Loc) (ls : Array Slot), i + d = n → va_P D vwCl [(a, .inl (cA, n, .inl (fillA i v f)))] H → va_S (fun x => x = a) s.heap H locs → lv_has ls 4 [(3, .int (nI n)), (2, .int (nI i)), (0, .ref a), (1, .int v)] →
      W p l e (rmL 0) s m [Value.ref a, Value.int v].toArray below meth c H locs 0 0 (MQ below (fun _ st oc t => (oc = .returned none ∧ va_P D vwCl [(a, .inl (cA, n, .inl (fillA n v f)))] t.heap) ∧ va_F (fun x => x = a) st t) [Value.ref a, Value.int v].toArray s 0 0 (fun x => x = a)) (F0 m 5 ls []) := by
    intro d
    induction d with
    | zero =>
      intro i H locs ls hi hP hS hl
      have hi : i = n := by omega
      subst hi
      refine lv_iload_n hx hb dJ7_fill_53178_5 rfl (lv_at hl 1 rfl) ?_
      refine lv_iload_n hx hb dJ7_fill_53178_6 rfl (lv_at hl 0 rfl) ?_
      refine lv_icmp_ge (tgt := 20) hx hb dJ7_fill_53178_7 (by decide) (fun cn => ?_) (fun cn => absurd (Int32.le_iff_toInt_le.mpr (Int.le_refl _)) cn)
      exact W.vret hx hb hr (fun t ht _ => ⟨⟨rfl, by rw [ht]; exact hP⟩, hS.F ht⟩) hS.2.2 dJ7_fill_53178_20 (hlocks := hlocks)
    | succ d ih =>
      intro i H locs ls hi hP hS hl
      have hin : i < n := by omega
      refine lv_iload_n hx hb dJ7_fill_53178_5 rfl (lv_at hl 1 rfl) ?_
      refine lv_iload_n hx hb dJ7_fill_53178_6 rfl (lv_at hl 0 rfl) ?_
      refine lv_icmp_ge (tgt := 20) hx hb dJ7_fill_53178_7 (by decide) (fun cn => absurd cn (nI_ge hin hn)) (fun cn => ?_)
      refine lv_aload_n hx hb dJ7_fill_53178_10 rfl (lv_at hl 2 rfl) ?_
      refine lv_iload_n hx hb dJ7_fill_53178_11 rfl (lv_at hl 1 rfl) ?_
      refine lv_iload_n hx hb dJ7_fill_53178_12 rfl (lv_at hl 3 rfl) ?_
      have hD1 : va_D (fun x => x = a) [(a, (.inl (cA, n, .inl (fillA i v f)) : va_E))] := ⟨fun i j x y h1 h2 _ => by
        have := (List.getElem?_eq_some_iff.mp h1).1; have := (List.getElem?_eq_some_iff.mp h2).1; simp at *; omega, fun k x h => by
        have h2 := List.mem_of_getElem? h; simp at h2; rw [h2]⟩
      refine va_iast (D := D) hx hb hK hP hD1 hS 0 t0 rfl ht (vp_in_nI hin hn) dJ7_fill_53178_13 (fun H locs h1 h2 hS => ?_)
      have e1 : upd (fillA i v f) (nI i).toNatClampNeg v = fillA (i + 1) v f := by
        rw [nI_clamp (by omega)]
        funext j
        simp only [upd, fillA]
        by_cases h : j = i
        · subst h; simp
        · rw [if_neg h]
          by_cases h3 : j < i
          · rw [if_pos h3, if_pos (by omega)]
          · rw [if_neg h3, if_neg (by omega)]
      rw [e1] at h1
      refine lv_iinc (v := nI (i + 1)) (lv' := [(2, .int (nI (i + 1))), (3, .int (nI n)), (0, .ref a), (1, .int v)]) hx hb dJ7_fill_53178_14 hl (k := 1) rfl (by rw [nI_succ]; rfl) (by decide) rfl (fun ls hl => ?_)
      refine lv_goto (tgt := 5) hx hb dJ7_fill_53178_17 (by decide) ?_
      exact ih (i + 1) H locs ls (by omega) h1 hS (lv_sub hl [1, 0, 2, 3] rfl)
  have e0 : fillA 0 v f = f := by funext j; simp [fillA]
  exact key n 0 s.heap [] ls (by omega) (by rw [e0]; exact hP) hS hl
section CFill
variable {p : Program} {l : Launch} {e : Env} {s : State} {m : MethodId} {args : Array Value} {below : List Frame} {meth : Method} {c : Code} {H H0 : Heap} {locs : List Loc} {cells slots h h' n idx nL maxL : Nat} {Q : State → Prop} {cc bytes : ByteArray} {pc : Nat} {ls : Array Slot} {rest As st0 : List Value} {ret ret' : Option FieldType} {y : MethodName} {R : Room} {own Cn : String} {b : Addr}
variable {D : va_G} {cy : Nat → ClassId} {P0 : Nat → Prop} {q z : Nat → Nat} {tl : va_W} {xx xx2 : (Nat → Option Nat) × (Nat → Option Nat) × Nat} {I I2 : Nat → Int32} {J J2 : Nat → Int64} {A A2 : Nat → Nat → Int32} {B B2 : Nat → Nat → Int64}
/-- a call of fill on a cell of any world -/
theorem w_fill {tys : List (ClassId × FieldType)} {ws : va_W} (C : Cx p s m args meth c cc nL own ret) (hK : va_K D vwCl tys s) (hP : va_P D vwCl ws H) (hD : va_D P0 ws) (hS : va_S P0 s.heap H locs) (w1 : Cond.methodLink own idx yJ7_fill_53178 ∈ WT) (hR : cells ≤ R.cells ∧ slots ≤ R.slots ∧ 1 ≤ R.frames ∧ 60 ≤ R.locals) (hsz : ls.size = nL) (hW : (rest.map fun v => v.category).sum ≤ 8) {a p0 t0 : Nat} {cA : ClassId} {f : Nat → Int32} {v : Int32} (hp : ws[p0]? = some (a, .inl (cA, n, .inl f))) (ht : tys[t0]? = some (cA, .int)) (hn : n < 2 ^ 31) (hd : decode cc pc = .ok (.invokestatic idx, 3))
    (kk : ∀ (H1 : Heap) (locs1 : List Loc), va_P D vwCl (ws.set p0 (a, .inl (cA, n, .inl (fillA n v f)))) H1 → va_D P0 (ws.set p0 (a, .inl (cA, n, .inl (fillA n v f)))) → va_S P0 s.heap H1 locs1 → W p l e R s m args below meth c H1 locs1 cells slots Q (F0 m (pc + 3) ls rest)) :
    W p l e R s m args below meth c H locs cells slots Q (F0 m pc ls (.int v :: .ref a :: rest)) := by
  have hPa : va_P D vwCl [(a, (.inl (cA, n, .inl f) : va_E))] H := fun k x hk => by
    have := List.mem_of_getElem? hk
    simp at this
    rw [this]
    exact hP p0 _ hp
  have hDa : va_D (fun x => x = a) [(a, (.inl (cA, n, .inl f) : va_E))] := ⟨fun i j x y h1 h2 _ => by
        have := (List.getElem?_eq_some_iff.mp h1).1; have := (List.getElem?_eq_some_iff.mp h2).1; simp at *; omega, fun k x h => by
        have h2 := List.mem_of_getElem? h; simp at h2; rw [h2]⟩
  have hPA : P0 a := hD.2 p0 _ hp
  have hr := run_S (l := l) (e := e) (below := below) (H := H) (locs := locs) (cells := cells) (slots := slots) (R := R) (rm := rmL 0) (rest := rest) (As := [.ref a, .int v]) C (kJ7_fill l D tys a t0 n cA f v hn ht) (wt_callB (rm := rmL 0) C w1 ini_J7 co_J7_fill_53178 rfl rfl hyJ7_fill_53178 ⟨hR.2.2.1, by show 8 + (4 + 11) + 60 * 0 ≤ R.locals; have := hR.2.2.2; omega⟩) st_J7_fill_53178
    ⟨fun a U g mk z => by
      obtain ⟨z0, z1, z2, z3⟩ := z
      exact ⟨z0, va_K.moved (u := U) (U := U.calling g mk a) (Vm.Alike.refl U.vm) z1, z2, z3⟩, fun U hU hW => ⟨rfl, va_K.moved hW.alike hK, by rw [hU]; exact hPa, hDa⟩⟩ rfl hsz rfl hW hd ⟨hR.1, hR.2.1⟩
  intro T hT X
  obtain ⟨v', st₀, t, T', L, h0, X', hL, e1, e2, ⟨⟨hv, hP1⟩, hz, hk⟩, st⟩ := hr T hT X
  cases hv
  rw [h0] at hz hk
  have hset : va_P D vwCl (ws.set p0 (a, .inl (cA, n, .inl (fillA n v f)))) T'.heap := by
    refine vaP_set hP hD hp ?_ (fun x hx hne => by rw [e1]; exact hk x hx hne)
    rw [e1]
    exact hP1 0 _ rfl
  obtain ⟨t2, a1, b1⟩ := kk T'.heap (locs ++ L) hset (hD.set hp) ⟨Nat.le_trans hS.1 (by rw [e1]; exact hz), fun x h1 h2 => by
      rw [e1, hk x (Nat.lt_of_lt_of_le h1 hS.1) (fun q => h2 (q ▸ hPA))]; exact hS.2.1 x h1 h2, fun x hx => by
      rcases List.mem_append.mp hx with h | h
      · exact hS.2.2 x h
      · rw [hL x h]; exact hPA⟩ T' rfl X'
  exact ⟨t2, st t2 a1, b1⟩
theorem c_fill_96 (C : Cx p s m args meth c cc nL own ret) (hI : CI D cy s P0 s.heap H locs q z tl xx I J A B) (w1 : Cond.methodLink own idx yJ7_fill_53178 ∈ WT) (hf : 1 ≤ h) (hsz : ls.size = nL) (hW : (rest.map fun v => v.category).sum ≤ 8) {v : Int32} (hd : decode cc pc = .ok (.invokestatic idx, 3)) (kk : ∀ (H1 : Heap) (locs1 : List Loc), CI D cy s P0 s.heap H1 locs1 q z tl xx I J (va_up A 96 (fillA 14 v (A 96))) B → W p l e (rmL h) s m args below meth c H1 locs1 0 0 Q (F0 m (pc + 3) ls rest)) : W p l e (rmL h) s m args below meth c H locs 0 0 Q (F0 m pc ls (.int v :: .ref (q 96) :: rest)) :=
  w_fill (p0 := 46) (t0 := 1) C hI.1 hI.2.1 hI.2.2.1 hI.2.2.2.1 w1 ⟨Nat.le_refl 0, Nat.le_refl 0, hf, by show 60 ≤ 60 * h; omega⟩ hsz hW rfl rfl (by decide) hd (fun H1 locs1 h1 h2 h3 => kk H1 locs1 ⟨hI.1, h1, h2, h3, hI.2.2.2.2⟩)
theorem c_fill_51 (C : Cx p s m args meth c cc nL own ret) (hI : CI D cy s P0 s.heap H locs q z tl xx I J A B) (w1 : Cond.methodLink own idx yJ7_fill_53178 ∈ WT) (hf : 1 ≤ h) (hsz : ls.size = nL) (hW : (rest.map fun v => v.category).sum ≤ 8) {v : Int32} (hd : decode cc pc = .ok (.invokestatic idx, 3)) (kk : ∀ (H1 : Heap) (locs1 : List Loc), CI D cy s P0 s.heap H1 locs1 q z tl xx I J (va_up A 51 (fillA 48 v (A 51))) B → W p l e (rmL h) s m args below meth c H1 locs1 0 0 Q (F0 m (pc + 3) ls rest)) : W p l e (rmL h) s m args below meth c H locs 0 0 Q (F0 m pc ls (.int v :: .ref (q 51) :: rest)) :=
  w_fill (p0 := 26) (t0 := 1) C hI.1 hI.2.1 hI.2.2.1 hI.2.2.2.1 w1 ⟨Nat.le_refl 0, Nat.le_refl 0, hf, by show 60 ≤ 60 * h; omega⟩ hsz hW rfl rfl (by decide) hd (fun H1 locs1 h1 h2 h3 => kk H1 locs1 ⟨hI.1, h1, h2, h3, hI.2.2.2.2⟩)
theorem c_fill_77 (C : Cx p s m args meth c cc nL own ret) (hI : CI D cy s P0 s.heap H locs q z tl xx I J A B) (w1 : Cond.methodLink own idx yJ7_fill_53178 ∈ WT) (hf : 1 ≤ h) (hsz : ls.size = nL) (hW : (rest.map fun v => v.category).sum ≤ 8) {v : Int32} (hd : decode cc pc = .ok (.invokestatic idx, 3)) (kk : ∀ (H1 : Heap) (locs1 : List Loc), CI D cy s P0 s.heap H1 locs1 q z tl xx I J (va_up A 77 (fillA 512 v (A 77))) B → W p l e (rmL h) s m args below meth c H1 locs1 0 0 Q (F0 m (pc + 3) ls rest)) : W p l e (rmL h) s m args below meth c H locs 0 0 Q (F0 m pc ls (.int v :: .ref (q 77) :: rest)) :=
  w_fill (p0 := 41) (t0 := 1) C hI.1 hI.2.1 hI.2.2.1 hI.2.2.2.1 w1 ⟨Nat.le_refl 0, Nat.le_refl 0, hf, by show 60 ≤ 60 * h; omega⟩ hsz hW rfl rfl (by decide) hd (fun H1 locs1 h1 h2 h3 => kk H1 locs1 ⟨hI.1, h1, h2, h3, hI.2.2.2.2⟩)
end CFill
/-! String.charAt of the reader's words -/
def wch (k : Nat) : Int32 := ((wby.getD k 0 &&& 255).toUInt32 % 65536).toInt32
set_option maxRecDepth 100000 in
theorem kJ3_checkIndex (l : Launch) (i n : Int32) (r : Option Nat) (h0 : ¬ i < 0) (h1 : i < n) : McS l yJ3_checkIndex_8e157 cJ3_checkIndex_8e157 3 (some .int) 0 [.int i, .int n, va_rf r] (some (.int i)) := by
  refine S_start rfl (by cases r <;> exact Nat.le_of_ble_eq_true rfl) ?_
  intro p e s m args below meth c H locs C hI ls hl
  have hl : lv_has ls 3 [(0, .int i), (1, .int n)] := lv_sub hl [0, 1] (by cases r <;> rfl)
  refine lv_iload_n C.1 C.2.1 dJ3_checkIndex_8e157_0 rfl (lv_at hl 0 rfl) ?_
  refine lv_if_lt (tgt := 9) C.1 C.2.1 dJ3_checkIndex_8e157_1 (by decide) (fun cn => absurd cn h0) (fun cn => ?_)
  refine lv_iload_n C.1 C.2.1 dJ3_checkIndex_8e157_4 rfl (lv_at hl 0 rfl) ?_
  refine lv_iload_n C.1 C.2.1 dJ3_checkIndex_8e157_5 rfl (lv_at hl 1 rfl) ?_
  refine lv_icmp_lt (tgt := 16) C.1 C.2.1 dJ3_checkIndex_8e157_6 (by decide) (fun cn => ?_) (fun cn => absurd h1 cn)
  refine lv_iload_n C.1 C.2.1 dJ3_checkIndex_8e157_16 rfl (lv_at hl 0 rfl) ?_
  exact S_iret C hI dJ3_checkIndex_8e157_17
/-- a method that only reads the static rows -/
abbrev McR (l : Launch) (y : MethodName) (cc : ByteArray) (nL : Nat) (ret : Option FieldType) (h : Nat) (av : List Value) (P0 : Nat → Prop) (z : Nat → Nat) (r : Option Value) : Prop :=
  Met l y (Cond.code y cc nL ret :: WT) (rmL h) (va_Pc av (fun U => SF P0 U U.heap z)) (fun _ st oc t => oc = .returned r ∧ t.heap = st.heap) 0 0 (fun _ => False)
section CRead
variable {p : Program} {l : Launch} {e : Env} {s : State} {m : MethodId} {args : Array Value} {below : List Frame} {meth : Method} {c : Code} {H H0 : Heap} {locs : List Loc} {cells slots h h' n idx nL maxL : Nat} {Q : State → Prop} {cc bytes : ByteArray} {pc : Nat} {ls : Array Slot} {rest As st0 : List Value} {ret ret' : Option FieldType} {y : MethodName} {R : Room} {own Cn : String} {b : Addr}
variable {P0 : Nat → Prop} {z : Nat → Nat}
theorem R_start {av : List Value} {r : Option Value} (hy : plainName y.cls = true) (hlen : (lg_sl av).length ≤ nL)
    (body : ∀ p e s m args below meth c H locs, Cx p s m args meth c cc nL y.cls ret → (H = s.heap ∧ locs = []) → va_S P0 s.heap H locs → SF P0 s s.heap z → ∀ ls, lv_has ls nL (lv_args 0 av) → W p l e (rmL h) s m args below meth c H locs 0 0 (MQ below (fun _ st oc t => oc = .returned r ∧ t.heap = st.heap) args s 0 0 (fun _ => False)) (F0 m 0 ls [])) :
    McR l y cc nL ret h av P0 z r := by
  refine Met.ofW (cc := cc) (maxL := nL) (ret := ret) hy rfl ?_
  intro p e s m args below meth c s₁ B hml hv
  obtain ⟨rfl, hF⟩ := hv
  have hts := atoms_spec (ws := Cond.code y cc nL ret :: WT) B.pre
  rw [lg_entry_eq]
  exact body p e s m _ below meth c _ _ ⟨B.exec, B.bytes, hml, findClass_of_methodNamed B.named, fun w hw => hts w (List.mem_cons_of_mem _ hw), B.returns, B.notSynchronized⟩ ⟨rfl, rfl⟩ va_S.rf hF _ (lv_entry av hlen)
theorem R_vret (C0 : Cx p s m args meth c cc nL own none) (hI : H = s.heap ∧ locs = []) (hd : decode cc pc = .ok (.return_, 1)) :
    W p l e R s m args below meth c H locs 0 0 (MQ below (fun _ st oc t => oc = .returned none ∧ t.heap = st.heap) args s 0 0 (fun _ => False)) (F0 m pc ls []) :=
  W.vret C0.1 C0.2.1 C0.2.2.2.2.2.1 (fun t ht _ => ⟨rfl, ht.trans hI.1⟩) (fun _ h => by rw [hI.2] at h; cases h) hd (hlocks := C0.2.2.2.2.2.2)
theorem R_cret (C0 : Cx p s m args meth c cc nL own (some .char)) (hI : H = s.heap ∧ locs = []) {v : Int32} (hn : narrow .char (.int v) = .int v) (hd : decode cc pc = .ok (.ireturn, 1)) :
    W p l e R s m args below meth c H locs 0 0 (MQ below (fun _ st oc t => oc = .returned (some (.int v)) ∧ t.heap = st.heap) args s 0 0 (fun _ => False)) (F0 m pc ls [.int v]) :=
  W.zret C0.1 C0.2.1 C0.2.2.2.2.2.1 hn (fun t ht _ => ⟨rfl, ht.trans hI.1⟩) (fun _ h => by rw [hI.2] at h; cases h) hd (hlocks := C0.2.2.2.2.2.2)
theorem R_out {r : Option Value} {Qa : State → Outcome → State → Prop} (hq : Qa = fun st oc t => oc = .returned r ∧ t.heap = st.heap) (hr : va_Run p l e R s m args below meth c H locs cells slots 0 0 (F0 m pc ls st0) rest Qa (fun _ => False)) (kk : W p l e R s m args below meth c H locs cells slots Q (F0 m (pc + 3) ls (r.toList ++ rest))) :
    W p l e R s m args below meth c H locs cells slots Q (F0 m pc ls st0) := by
  subst hq
  intro T hT X
  obtain ⟨v, st₀, t, T', L, h0, X', hL, e1, e2, ⟨hv, hh⟩, st⟩ := hr T hT X
  cases hv
  have hLn : L = [] := List.eq_nil_iff_forall_not_mem.mpr (fun q hq => hL q hq)
  subst hLn
  rw [List.append_nil] at X'
  obtain ⟨t2, a1, b1⟩ := kk T' (by rw [e1, hh, h0]) X'
  exact ⟨t2, st t2 a1, b1⟩
theorem R_callS {r : Option Value} (C0 : Cx p s m args meth c cc nL own ret) (hS : va_S P0 s.heap H locs) (hF : SF P0 s s.heap z) (hM : McR l y bytes maxL ret' h' As P0 z r) (w1 : Cond.methodLink own idx y ∈ WT) (w2 : Cond.static y ∈ WT) (w4 : Cond.initialized y.cls ∈ WT) (w5 : Cond.code y bytes maxL ret' ∈ WT)
    (hy : (y.cls ≠ "java/lang/invoke/MethodHandle" ∧ y.cls ≠ "java/lang/invoke/VarHandle") ∧ (parseMethodDescriptor y.desc).map (fun d => d.parameters.length) = some n) (hn : As.length = n) (hR : h' + 1 ≤ h ∧ maxL ≤ 41)
    (hsz : ls.size = nL) (hst : st0 = As.reverse ++ rest) (hW : (rest.map fun v => v.category).sum ≤ 8) (hd : decode cc pc = .ok (.invokestatic idx, 3))
    (kk : W p l e (rmL h) s m args below meth c H locs 0 0 Q (F0 m (pc + 3) ls (r.toList ++ rest))) :
    W p l e (rmL h) s m args below meth c H locs 0 0 Q (F0 m pc ls st0) := by
  have hr := run_S (l := l) (e := e) (below := below) (H := H) (locs := locs) (cells := 0) (slots := 0) (R := rmL h) (rm := rmL h') C0 hM (wt_callB (rm := rmL h') C0 w1 w4 w5 rfl rfl hy ⟨hR.1, by have := hR.1; have := hR.2; show 8 + (maxL + 11) + 60 * h' ≤ 60 * h; omega⟩) w2
    ⟨fun a U g mk z => ⟨z.1, SF.same (u := U) (U := U.calling g mk a) rfl z.2⟩, fun U hU hW => ⟨rfl, by show SF P0 U U.heap z; rw [hU]; exact SF.warm hW (hF.kept (fun a h1 h2 => hS.2.1 a h1 h2))⟩⟩ hn hsz hst hW hd ⟨Nat.le_refl 0, Nat.le_refl 0⟩
  exact R_out rfl hr kk
theorem R_callV {r : Option Value} (C0 : Cx p s m args meth c cc nL own ret) (hS : va_S P0 s.heap H locs) (hF : SF P0 s s.heap z) (hM : McR l y bytes maxL ret' h' (.ref b :: As) P0 z r) (hrv : ∃ cell : Cell, H[b]? = some cell ∧ cell.vm.isStatics = false ∧ s.vm.findClass Cn = some cell.cls) (w1 : Cond.methodLink own idx y ∈ WT) (w2 : Cond.instanceMethod y ∈ WT) (w3 : Cond.selects Cn y y ∈ WT) (w4 : Cond.initialized y.cls ∈ WT) (w5 : Cond.code y bytes maxL ret' ∈ WT)
    (hy : (y.cls ≠ "java/lang/invoke/MethodHandle" ∧ y.cls ≠ "java/lang/invoke/VarHandle") ∧ (parseMethodDescriptor y.desc).map (fun d => d.parameters.length) = some n) (hn : As.length = n) (hR : h' + 1 ≤ h ∧ maxL ≤ 41)
    (hsz : ls.size = nL) (hst : st0 = As.reverse ++ .ref b :: rest) (hW : (rest.map fun v => v.category).sum ≤ 8) (hd : decode cc pc = .ok (.invokevirtual idx, 3))
    (kk : W p l e (rmL h) s m args below meth c H locs 0 0 Q (F0 m (pc + 3) ls (r.toList ++ rest))) :
    W p l e (rmL h) s m args below meth c H locs 0 0 Q (F0 m pc ls st0) := by
  have hr := run_V (l := l) (e := e) (below := below) (H := H) (locs := locs) (cells := 0) (slots := 0) (R := rmL h) (rm := rmL h') (C := Cn) (b := b) C0 hM (wt_callB (rm := rmL h') C0 w1 w4 w5 rfl rfl hy ⟨hR.1, by have := hR.1; have := hR.2; show 8 + (maxL + 11) + 60 * h' ≤ 60 * h; omega⟩) w2 w3
    ⟨fun a U g mk z => ⟨z.1, SF.same (u := U) (U := U.calling g mk a) rfl z.2⟩, hrv, fun U hU hW => ⟨rfl, by show SF P0 U U.heap z; rw [hU]; exact SF.warm hW (hF.kept (fun a h1 h2 => hS.2.1 a h1 h2))⟩⟩ hn hsz hst hW hd ⟨Nat.le_refl 0, Nat.le_refl 0⟩
  exact R_out rfl hr kk
end CRead
set_option maxRecDepth 100000 in
theorem kJ0_checkIndex (l : Launch) (P0 : Nat → Prop) (z : Nat → Nat) (i n : Int32) (h0 : ¬ i < 0) (h1 : i < n) : McR l yJ0_checkIndex_df160 cJ0_checkIndex_df160 2 none 1 [.int i, .int n] P0 z none := by
  refine R_start rfl (Nat.le_of_ble_eq_true rfl) ?_
  intro p e s m args below meth c H locs C hI hS hF ls hl
  have hl : lv_has ls 2 [(0, .int i), (1, .int n)] := hl
  have hZ : ∃ r : Option Nat, va_Z "jdk/internal/util/Preconditions" "SIOOBE_FORMATTER" "Ljava/util/function/BiFunction;" (va_rf r) P0 s s.heap := by
    rcases hF.1.2.2.2.2.2.2.2 with h | ⟨t, h⟩
    · exact ⟨none, h⟩
    · exact ⟨some t, h⟩
  obtain ⟨r, hZ⟩ := hZ
  refine lv_iload_n C.1 C.2.1 dJ0_checkIndex_df160_0 rfl (lv_at hl 0 rfl) ?_
  refine lv_iload_n C.1 C.2.1 dJ0_checkIndex_df160_1 rfl (lv_at hl 1 rfl) ?_
  refine va_gets C.1 C.2.1 hZ hS C.2.2.2.1 (C.2.2.2.2.1 _ fl_J0_1053) (fun _ h => h) dJ0_checkIndex_df160_2 ?_
  refine S_call (h := 1) C (kJ3_checkIndex l i n r h0 h1) ml_J0_1059 st_J3_checkIndex_8e157 ini_J3 co_J3_checkIndex_8e157 hyJ3_checkIndex_8e157 rfl ⟨by decide, by decide⟩ hl.1 rfl (Nat.le_of_ble_eq_true rfl) dJ0_checkIndex_df160_5 ⟨Nat.le_refl 0, Nat.le_refl 0, Nat.le_refl _, Nat.le_refl _⟩ ?_
  refine lv_pop C.1 C.2.1 dJ0_checkIndex_df160_8 rfl ?_
  exact R_vret C hI dJ0_checkIndex_df160_9
theorem wch_n (k : Nat) : narrow .char (.int (wch k)) = .int (wch k) := pk_nc _
set_option maxRecDepth 100000 in
theorem kJ1_charAt (l : Launch) (P0 : Nat → Prop) (z : Nat → Nat) (i : Int32) (hi : inB i 126 = true) : McR l yJ1_charAt_3b067 cJ1_charAt_3b067 2 (some .char) 2 [.ref (z 6), .int i] P0 z (some (.int (wch (ix i)))) := by
  refine R_start rfl (Nat.le_of_ble_eq_true rfl) ?_
  intro p e s m args below meth c H locs C hI hS hF ls hl
  have hl : lv_has ls 2 [(0, .ref (z 6)), (1, .int i)] := hl
  have hT := ((hF.1.2.2.2.2.2.1).1 0 (by decide)).2.2.2
  have hb0 : 0 ≤ i.toInt ∧ i.toInt < 126 := vp_in_iff.mp (inB_in hi)
  refine lv_iload_n C.1 C.2.1 dJ1_charAt_3b067_0 rfl (lv_at hl 1 rfl) ?_
  refine lv_aload_n C.1 C.2.1 dJ1_charAt_3b067_1 rfl (lv_at hl 0 rfl) ?_
  refine va_tlen C.1 C.2.1 hT hS rfl dJ1_charAt_3b067_2 ?_
  refine R_callS (h := 2) C hS hF (kJ0_checkIndex l P0 z i (Int32.ofNat ([126].getD 0 0)) (fun h => by have := Int32.lt_iff_toInt_lt.mp h; have e0 : (0 : Int32).toInt = 0 := rfl; omega) (Int32.lt_iff_toInt_lt.mpr (by have e0 : (Int32.ofNat ([126].getD 0 0)).toInt = 126 := rfl; omega))) ml_J1_9 st_J0_checkIndex_df160 ini_J0 co_J0_checkIndex_df160 hyJ0_checkIndex_df160 rfl ⟨by decide, by decide⟩ hl.1 rfl (Nat.le_of_ble_eq_true rfl) dJ1_charAt_3b067_3 ?_
  refine lv_aload_n C.1 C.2.1 dJ1_charAt_3b067_6 rfl (lv_at hl 0 rfl) ?_
  refine lv_iload_n C.1 C.2.1 dJ1_charAt_3b067_7 rfl (lv_at hl 1 rfl) ?_
  refine va_tb C.1 C.2.1 hT hS (inB_in hi) rfl dJ1_charAt_3b067_8 ?_
  refine lv_sipush (v := 255) C.1 C.2.1 dJ1_charAt_3b067_9 (by decide) ?_
  refine lv_iand C.1 C.2.1 dJ1_charAt_3b067_12 ?_
  refine lv_i2c C.1 C.2.1 dJ1_charAt_3b067_13 rfl ?_
  exact R_cret C hI (wch_n (ix i)) dJ1_charAt_3b067_14
set_option maxRecDepth 100000 in
theorem kJ0_isLatin1 (l : Launch) (P0 : Nat → Prop) (z : Nat → Nat) : McR l yJ0_isLatin1_aae02 cJ0_isLatin1_aae02 1 (some .boolean) 0 [.ref (z 5)] P0 z (some (.int 1)) := by
  refine R_start rfl (Nat.le_of_ble_eq_true rfl) ?_
  intro p e s m args below meth c H locs C hI hS hF ls hl
  have hl : lv_has ls 1 [(0, .ref (z 5))] := hl
  refine va_gets C.1 C.2.1 hF.1.2.2.2.2.2.2.1 hS C.2.2.2.1 (C.2.2.2.2.1 _ fl_J0_38) (fun _ h => h) dJ0_isLatin1_aae02_0 ?_
  refine lv_if_eq (tgt := 17) C.1 C.2.1 dJ0_isLatin1_aae02_3 (by decide) (fun cn => absurd cn (by decide)) (fun cn => ?_)
  refine lv_aload_n C.1 C.2.1 dJ0_isLatin1_aae02_6 rfl (lv_at hl 0 rfl) ?_
  refine vk_getf C.1 C.2.1 ((hF.1.2.2.2.2.2.1).1 0 (by decide)).2.1 hS C.2.2.2.1 (C.2.2.2.2.1 _ fl_J0_15) (fun _ h => h) dJ0_isLatin1_aae02_7 ?_
  refine lv_if_ne (tgt := 17) C.1 C.2.1 dJ0_isLatin1_aae02_10 (by decide) (fun cn => absurd rfl cn) (fun cn => ?_)
  refine lv_iconst (v := 1) C.1 C.2.1 dJ0_isLatin1_aae02_13 (by decide) ?_
  refine lv_goto (tgt := 18) C.1 C.2.1 dJ0_isLatin1_aae02_14 (by decide) ?_
  exact S_zret C hI (by decide) dJ0_isLatin1_aae02_18
set_option maxRecDepth 100000 in
theorem kJ0_charAt (l : Launch) (P0 : Nat → Prop) (z : Nat → Nat) (i : Int32) (hi : inB i 126 = true) : McR l yJ0_charAt_5068e cJ0_charAt_5068e 2 (some .char) 3 [.ref (z 5), .int i] P0 z (some (.int (wch (ix i)))) := by
  refine R_start rfl (Nat.le_of_ble_eq_true rfl) ?_
  intro p e s m args below meth c H locs C hI hS hF ls hl
  have hl : lv_has ls 2 [(0, .ref (z 5)), (1, .int i)] := hl
  refine lv_aload_n C.1 C.2.1 dJ0_charAt_5068e_0 rfl (lv_at hl 0 rfl) ?_
  refine R_callV (h := 3) (Cn := RJ0) C hS hF (kJ0_isLatin1 l P0 z) (vk_recv hF.1.2.2.2.2.2.1 (i := 0) (by decide) hS) ml_J0_492 im_J0_isLatin1_aae02 se_J0_isLatin1_aae02 ini_J0 co_J0_isLatin1_aae02 hyJ0_isLatin1_aae02 rfl ⟨by decide, by decide⟩ hl.1 rfl (Nat.le_of_ble_eq_true rfl) dJ0_charAt_5068e_1 ?_
  refine lv_if_eq (tgt := 16) C.1 C.2.1 dJ0_charAt_5068e_4 (by decide) (fun cn => absurd cn (by decide)) (fun cn => ?_)
  refine lv_aload_n C.1 C.2.1 dJ0_charAt_5068e_7 rfl (lv_at hl 0 rfl) ?_
  refine vk_getf C.1 C.2.1 ((hF.1.2.2.2.2.2.1).1 0 (by decide)).2.2.1 hS C.2.2.2.1 (C.2.2.2.2.1 _ fl_J0_9) (fun _ h => h) dJ0_charAt_5068e_8 ?_
  refine lv_iload_n C.1 C.2.1 dJ0_charAt_5068e_11 rfl (lv_at hl 1 rfl) ?_
  refine R_callS (h := 3) C hS hF (kJ1_charAt l P0 z i hi) ml_J0_495 st_J1_charAt_3b067 ini_J1 co_J1_charAt_3b067 hyJ1_charAt_3b067 rfl ⟨by decide, by decide⟩ hl.1 rfl (Nat.le_of_ble_eq_true rfl) dJ0_charAt_5068e_12 ?_
  exact R_cret C hI (wch_n (ix i)) dJ0_charAt_5068e_15
section CChar
variable {p : Program} {l : Launch} {e : Env} {s : State} {m : MethodId} {args : Array Value} {below : List Frame} {meth : Method} {c : Code} {H : Heap} {locs : List Loc} {h nL : Nat} {Q : State → Prop} {cc : ByteArray} {pc : Nat} {ls : Array Slot} {rest : List Value} {ret : Option FieldType}
variable {D : va_G} {cy : Nat → ClassId} {P0 : Nat → Prop} {q z : Nat → Nat} {tl : va_W} {xx : (Nat → Option Nat) × (Nat → Option Nat) × Nat} {I : Nat → Int32} {J : Nat → Int64} {A : Nat → Nat → Int32} {B : Nat → Nat → Int64}
theorem c_words {R : Room} {cells slots : Nat} (C : Cx p s m args meth c cc nL RX3 ret) (hI : CI D cy s P0 s.heap H locs q z tl xx I J A B) (hd : decode cc pc = .ok (.ldc 86, 2)) (kk : W p l e R s m args below meth c H locs cells slots Q (F0 m (pc + 2) ls (.ref (z 5) :: rest))) : W p l e R s m args below meth c H locs cells slots Q (F0 m pc ls rest) :=
  va_ldcS C.1 C.2.1 C.2.2.2.1 hI.2.2.2.2.2.2.2.2 hd kk
theorem c_charAt (C : Cx p s m args meth c cc nL RX3 ret) (hI : CI D cy s P0 s.heap H locs q z tl xx I J A B) {i : Int32} (hi : inB i 126 = true) (hsz : ls.size = nL) (hR : 4 ≤ h) (hW : (rest.map fun v => v.category).sum ≤ 8) (hd : decode cc pc = .ok (.invokevirtual 88, 3)) (kk : W p l e (rmL h) s m args below meth c H locs 0 0 Q (F0 m (pc + 3) ls (.int (wch (ix i)) :: rest))) : W p l e (rmL h) s m args below meth c H locs 0 0 Q (F0 m pc ls (.int i :: .ref (z 5) :: rest)) :=
  R_callV (Cn := RJ0) C hI.2.2.2.1 hI.2.2.2.2 (kJ0_charAt l P0 z i hi) (vk_recv hI.2.2.2.2.1.2.2.2.2.2.1 (i := 0) (by decide) hI.2.2.2.1) ml_X3_88 im_J0_charAt_5068e se_J0_charAt_5068e ini_J0 co_J0_charAt_5068e hyJ0_charAt_5068e rfl ⟨hR, by decide⟩ hsz rfl hW hd kk
end CChar
def sJ6_bitCount_0f7a4 (x0 : Int32) : Option ((Int32)) :=
gv (x0 - ((ushr x0 (1 : Int32)) &&& (1431655765 : Int32))) fun x0_9 =>
gv ((x0_9 &&& (858993459 : Int32)) + ((ushr x0_9 (2 : Int32)) &&& (858993459 : Int32))) fun x0_23 =>
gv ((x0_23 + (ushr x0_23 (4 : Int32))) &&& (252645135 : Int32)) fun x0_33 =>
gv (x0_33 + (ushr x0_33 (8 : Int32))) fun x0_40 =>
gv (x0_40 + (ushr x0_40 (16 : Int32))) fun x0_47 =>
some (x0_47 &&& (63 : Int32))
set_option maxRecDepth 100000 in
set_option maxHeartbeats 8000000 in
theorem kJ6_bitCount_0f7a4 (l : Launch) (x0 : Int32) (r : Int32) (hs : sJ6_bitCount_0f7a4 x0 = some r) : McS l yJ6_bitCount_0f7a4 cJ6_bitCount_0f7a4 1 (some .int) 0 [.int x0] (some (.int r)) := by
  refine S_start rfl (Nat.le_of_ble_eq_true rfl) ?_
  intro p e s m args below meth c H locs C hI ls hl
  have hl : lv_has ls 1 [(0, .int x0)] := hl
  rw [sJ6_bitCount_0f7a4] at hs
  refine lv_iload_n C.1 C.2.1 dJ6_bitCount_0f7a4_0 rfl (lv_at hl 0 rfl) ?_
  refine lv_iload_n C.1 C.2.1 dJ6_bitCount_0f7a4_1 rfl (lv_at hl 0 rfl) ?_
  refine lv_iconst (v := 1) C.1 C.2.1 dJ6_bitCount_0f7a4_2 (by decide) ?_
  refine lv_iushr (v := ushr _ _) C.1 C.2.1 dJ6_bitCount_0f7a4_3 rfl ?_
  refine lv_ldcw C.1 C.2.1 C.2.2.2.1 (C.2.2.2.2.1 _ kc_J6_265) dJ6_bitCount_0f7a4_4 ?_
  refine lv_iand C.1 C.2.1 dJ6_bitCount_0f7a4_7 ?_
  refine lv_isub C.1 C.2.1 dJ6_bitCount_0f7a4_8 ?_
  refine lv_topi (fun x0_9 ex0_9 => ?_)
  have hs := gv_at ex0_9 hs
  refine lv_istore_n (lv' := [(0, .int x0_9)]) C.1 C.2.1 dJ6_bitCount_0f7a4_9 rfl hl (by decide) rfl (fun ls hl => ?_)
  refine lv_iload_n C.1 C.2.1 dJ6_bitCount_0f7a4_10 rfl (lv_at hl 0 rfl) ?_
  refine lv_ldcw C.1 C.2.1 C.2.2.2.1 (C.2.2.2.2.1 _ kc_J6_266) dJ6_bitCount_0f7a4_11 ?_
  refine lv_iand C.1 C.2.1 dJ6_bitCount_0f7a4_14 ?_
  refine lv_iload_n C.1 C.2.1 dJ6_bitCount_0f7a4_15 rfl (lv_at hl 0 rfl) ?_
  refine lv_iconst (v := 2) C.1 C.2.1 dJ6_bitCount_0f7a4_16 (by decide) ?_
  refine lv_iushr (v := ushr _ _) C.1 C.2.1 dJ6_bitCount_0f7a4_17 rfl ?_
  refine lv_ldcw C.1 C.2.1 C.2.2.2.1 (C.2.2.2.2.1 _ kc_J6_266) dJ6_bitCount_0f7a4_18 ?_
  refine lv_iand C.1 C.2.1 dJ6_bitCount_0f7a4_21 ?_
  refine lv_iadd C.1 C.2.1 dJ6_bitCount_0f7a4_22 ?_
  refine lv_topi (fun x0_23 ex0_23 => ?_)
  have hs := gv_at ex0_23 hs
  refine lv_istore_n (lv' := [(0, .int x0_23)]) C.1 C.2.1 dJ6_bitCount_0f7a4_23 rfl hl (by decide) rfl (fun ls hl => ?_)
  refine lv_iload_n C.1 C.2.1 dJ6_bitCount_0f7a4_24 rfl (lv_at hl 0 rfl) ?_
  refine lv_iload_n C.1 C.2.1 dJ6_bitCount_0f7a4_25 rfl (lv_at hl 0 rfl) ?_
  refine lv_iconst (v := 4) C.1 C.2.1 dJ6_bitCount_0f7a4_26 (by decide) ?_
  refine lv_iushr (v := ushr _ _) C.1 C.2.1 dJ6_bitCount_0f7a4_27 rfl ?_
  refine lv_iadd C.1 C.2.1 dJ6_bitCount_0f7a4_28 ?_
  refine lv_ldcw C.1 C.2.1 C.2.2.2.1 (C.2.2.2.2.1 _ kc_J6_267) dJ6_bitCount_0f7a4_29 ?_
  refine lv_iand C.1 C.2.1 dJ6_bitCount_0f7a4_32 ?_
  refine lv_topi (fun x0_33 ex0_33 => ?_)
  have hs := gv_at ex0_33 hs
  refine lv_istore_n (lv' := [(0, .int x0_33)]) C.1 C.2.1 dJ6_bitCount_0f7a4_33 rfl hl (by decide) rfl (fun ls hl => ?_)
  refine lv_iload_n C.1 C.2.1 dJ6_bitCount_0f7a4_34 rfl (lv_at hl 0 rfl) ?_
  refine lv_iload_n C.1 C.2.1 dJ6_bitCount_0f7a4_35 rfl (lv_at hl 0 rfl) ?_
  refine lv_bipush (v := 8) C.1 C.2.1 dJ6_bitCount_0f7a4_36 (by decide) ?_
  refine lv_iushr (v := ushr _ _) C.1 C.2.1 dJ6_bitCount_0f7a4_38 rfl ?_
  refine lv_iadd C.1 C.2.1 dJ6_bitCount_0f7a4_39 ?_
  refine lv_topi (fun x0_40 ex0_40 => ?_)
  have hs := gv_at ex0_40 hs
  refine lv_istore_n (lv' := [(0, .int x0_40)]) C.1 C.2.1 dJ6_bitCount_0f7a4_40 rfl hl (by decide) rfl (fun ls hl => ?_)
  refine lv_iload_n C.1 C.2.1 dJ6_bitCount_0f7a4_41 rfl (lv_at hl 0 rfl) ?_
  refine lv_iload_n C.1 C.2.1 dJ6_bitCount_0f7a4_42 rfl (lv_at hl 0 rfl) ?_
  refine lv_bipush (v := 16) C.1 C.2.1 dJ6_bitCount_0f7a4_43 (by decide) ?_
  refine lv_iushr (v := ushr _ _) C.1 C.2.1 dJ6_bitCount_0f7a4_45 rfl ?_
  refine lv_iadd C.1 C.2.1 dJ6_bitCount_0f7a4_46 ?_
  refine lv_topi (fun x0_47 ex0_47 => ?_)
  have hs := gv_at ex0_47 hs
  refine lv_istore_n (lv' := [(0, .int x0_47)]) C.1 C.2.1 dJ6_bitCount_0f7a4_47 rfl hl (by decide) rfl (fun ls hl => ?_)
  refine lv_iload_n C.1 C.2.1 dJ6_bitCount_0f7a4_48 rfl (lv_at hl 0 rfl) ?_
  refine lv_bipush (v := 63) C.1 C.2.1 dJ6_bitCount_0f7a4_49 (by decide) ?_
  refine lv_iand C.1 C.2.1 dJ6_bitCount_0f7a4_51 ?_
  obtain rfl := Option.some.inj hs
  exact S_iret C hI dJ6_bitCount_0f7a4_52
