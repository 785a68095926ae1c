
/-! the words in which the meaning of a method is written -/
def gv {α β : Type} (e : α) (k : α → β) : β := k e
theorem gv_at {α β : Type} {e y : α} {k : α → β} {o : β} (h : y = e) (hs : gv e k = o) : k y = o := by subst h; exact hs
theorem gv_be {α β : Type} {e : α} {k : α → β} {o : β} (hs : gv e k = o) : k e = o := hs
theorem gv_ex {α β : Type} {e : α} {k : α → β} {o : β} (hs : gv e k = o) : ∃ y, y = e ∧ k y = o := ⟨e, rfl, hs⟩
def ck {α : Type} (b : Bool) (k : Option α) : Option α := if b = true then k else none
theorem ck_e {α : Type} {b : Bool} {k : Option α} {o : α} (hs : ck b k = some o) : b = true ∧ k = some o := by
  cases b with
  | false => simp [ck] at hs
  | true => simpa [ck] using hs
theorem bd_e {α β : Type} {f : Option α} {k : α → Option β} {o : β} (hs : f.bind k = some o) : ∃ a, f = some a ∧ k a = some o := by
  cases f with
  | none => cases hs
  | some a => exact ⟨a, rfl, hs⟩
theorem if_t {α : Type} {c : Prop} [Decidable c] {a b o : α} (h : c) (e : (if c then a else b) = o) : a = o := by rw [if_pos h] at e; exact e
theorem if_f {α : Type} {c : Prop} [Decidable c] {a b o : α} (h : ¬ c) (e : (if c then a else b) = o) : b = o := by rw [if_neg h] at e; exact e
theorem if_t' {α : Type} {c : Prop} [Decidable c] {a b o : α} (h : c) (e : o = (if c then a else b)) : o = a := by rw [if_pos h] at e; exact e
theorem if_f' {α : Type} {c : Prop} [Decidable c] {a b o : α} (h : ¬ c) (e : o = (if c then a else b)) : o = b := by rw [if_neg h] at e; exact e
theorem so2 {α β : Type} {a a' : α} {b b' : β} (h : some (a, b) = some (a', b')) : a = a' ∧ b = b' := by cases h; exact ⟨rfl, rfl⟩
theorem so3 {α β γ : Type} {a a' : α} {b b' : β} {c c' : γ} (h : some (a, b, c) = some (a', b', c')) : a = a' ∧ b = b' ∧ c = c' := by cases h; exact ⟨rfl, rfl, rfl⟩
theorem so4 {α β γ δ : Type} {a a' : α} {b b' : β} {c c' : γ} {d d' : δ} (h : some (a, b, c, d) = some (a', b', c', d')) : a = a' ∧ b = b' ∧ c = c' ∧ d = d' := by cases h; exact ⟨rfl, rfl, rfl, rfl⟩
theorem so5 {α β γ δ ε : Type} {a a' : α} {b b' : β} {c c' : γ} {d d' : δ} {e e' : ε} (h : some (a, b, c, d, e) = some (a', b', c', d', e')) : a = a' ∧ b = b' ∧ c = c' ∧ d = d' ∧ e = e' := by cases h; exact ⟨rfl, rfl, rfl, rfl, rfl⟩
theorem pr2 {α β : Type} {a a' : α} {b b' : β} (h : (a, b) = (a', b')) : a = a' ∧ b = b' := by cases h; exact ⟨rfl, rfl⟩
theorem pr3 {α β γ : Type} {a a' : α} {b b' : β} {c c' : γ} (h : (a, b, c) = (a', b', c')) : a = a' ∧ b = b' ∧ c = c' := by cases h; exact ⟨rfl, rfl, rfl⟩
theorem pr4 {α β γ δ : Type} {a a' : α} {b b' : β} {c c' : γ} {d d' : δ} (h : (a, b, c, d) = (a', b', c', d')) : a = a' ∧ b = b' ∧ c = c' ∧ d = d' := by cases h; exact ⟨rfl, rfl, rfl, rfl⟩
theorem pr5 {α β γ δ ε : Type} {a a' : α} {b b' : β} {c c' : γ} {d d' : δ} {e e' : ε} (h : (a, b, c, d, e) = (a', b', c', d', e')) : a = a' ∧ b = b' ∧ c = c' ∧ d = d' ∧ e = e' := by cases h; exact ⟨rfl, rfl, rfl, rfl, rfl⟩
theorem pr6 {α β γ δ ε ζ : Type} {a a' : α} {b b' : β} {c c' : γ} {d d' : δ} {e e' : ε} {f f' : ζ} (h : (a, b, c, d, e, f) = (a', b', c', d', e', f')) : a = a' ∧ b = b' ∧ c = c' ∧ d = d' ∧ e = e' ∧ f = f' := by cases h; exact ⟨rfl, rfl, rfl, rfl, rfl, rfl⟩
theorem pr7 {α β γ δ ε ζ η : Type} {a a' : α} {b b' : β} {c c' : γ} {d d' : δ} {e e' : ε} {f f' : ζ} {g g' : η} (h : (a, b, c, d, e, f, g) = (a', b', c', d', e', f', g')) : a = a' ∧ b = b' ∧ c = c' ∧ d = d' ∧ e = e' ∧ f = f' ∧ g = g' := by cases h; exact ⟨rfl, rfl, rfl, rfl, rfl, rfl, rfl⟩
abbrev ix (i : Int32) : Nat := i.toNatClampNeg
def inB (i : Int32) (n : Nat) : Bool := decide (0 ≤ i) && decide (ix i < n)
theorem inB_in {i : Int32} {n : Nat} (h : inB i n = true) : vp_in i n := by
  simp only [inB, Bool.and_eq_true, decide_eq_true_eq] at h
  intro q
  rcases q with q | q
  · exact absurd (Int32.lt_iff_toInt_lt.mp q) (by have := Int32.le_iff_toInt_le.mp h.1; omega)
  · exact absurd h.2 (Nat.not_lt.mpr q)
def nzI (y : Int32) : Bool := decide (¬ y = 0)
def nzL (y : Int64) : Bool := decide (¬ y = 0)
theorem nzI_e {y : Int32} (h : nzI y = true) : ¬ y = 0 := of_decide_eq_true h
theorem nzL_e {y : Int64} (h : nzL y = true) : ¬ y = 0 := of_decide_eq_true h
def isB (v : Int32) : Bool := decide (v = 0 ∨ v = 1)
theorem isB_n {v : Int32} (h : isB v = true) : narrow .boolean (.int v) = .int v := by
  have h := of_decide_eq_true h
  rcases h with rfl | rfl <;> rfl
theorem isB_f {v : Int32} (h : isB v = true) : fits .boolean (.int v) = true := by
  have h := of_decide_eq_true h
  rcases h with rfl | rfl <;> rfl
theorem isB_ev {v e : Int32} (h : v = e) (g : isB e = true) : isB v = true := h ▸ g
abbrev ushr (x y : Int32) : Int32 := (x.toUInt32 >>> (y.toUInt32 &&& Int32.toUInt32 31)).toInt32
def FU : Nat := 1000000
/-- the room of a method whose calls go h deep -/
abbrev rmL (h : Nat) : Room := { frames := h, cells := 0, slots := 0, locals := 60 * h }
/-- what every row of a method's walk rests on -/
abbrev Cx (p : Program) (s : State) (m : MethodId) (args : Array Value) (meth : Method) (c : Code) (cc : ByteArray) (nL : Nat) (own : String) (ret : Option FieldType) : Prop :=
  p.tables.exec = Jvm.exec ∧ c.code = cc ∧ c.maxLocals = nL ∧ s.vm.findClass own = some m.cls ∧ (∀ w ∈ WT, w.before args s = true) ∧ meth.sig.returnType = ret ∧ meth.locks = false
theorem wt_good (y0 : Cond) {y1 : Cond} (h1 : y1 ∈ WT) : GoodIn (y0 :: WT) (y1 :: WT) := by
  have key : ∀ w ∈ WT, w ∈ (y0 :: WT) ∧ ((w.onTables && w.keeps) = true ∨ ∃ ty, w = .arrayClass ty) := fun w h => ⟨List.mem_cons_of_mem _ h, good_of_word (List.mem_filter.mp h).2⟩
  intro w h
  rcases List.mem_cons.mp h with rfl | h
  · exact key _ h1
  · exact key _ h
section Runs
variable {p : Program} {l : Launch} {e : Env} {s : State} {m : MethodId} {args : Array Value} {below : List Frame} {meth : Method} {c : Code} {H : Heap} {locs : List Loc} {cells slots mc ms h h' n idx nL maxL : Nat} {Q : State → Prop} {cc bytes : ByteArray} {pc : Nat} {ls : Array Slot} {rest As st0 : List Value} {own C : String} {ret ret' : Option FieldType} {y y0 : MethodName} {b : Addr} {Pc : Array Value → State → Prop} {Qc : Array Value → State → Outcome → State → Prop} {free : Addr → Prop} {R rm : Room}
/-- the words of a call, out of the one list -/
theorem wt_callB (C0 : Cx p s m args meth c cc nL own ret) (w1 : Cond.methodLink own idx y ∈ WT) (w4 : Cond.initialized y.cls ∈ WT) (w5 : Cond.code y bytes maxL ret' ∈ WT) (hrc : rm.cells = mc) (hrs : rm.slots = ms)
    (hy : (y.cls ≠ "java/lang/invoke/MethodHandle" ∧ y.cls ≠ "java/lang/invoke/VarHandle") ∧ (parseMethodDescriptor y.desc).map (fun d => d.parameters.length) = some n) (hR : rm.frames + 1 ≤ R.frames ∧ 8 + (maxL + 11) + rm.locals ≤ R.locals) :
    CallB R s args own idx y bytes maxL ret' (Cond.code y bytes maxL ret' :: WT) rm mc ms n := by
  have hts := C0.2.2.2.2.1
  refine ⟨hrc, hrs, hR.1, hR.2, fun w h a' U hW => ?_, List.mem_cons_self, hts _ w5, hts _ w4, hy.1, fun sig h => ?_, hts _ w1⟩
  · obtain ⟨h1, h2⟩ := wt_good w w5 w h
    have h3 : w ∈ WT := by
      rcases List.mem_cons.mp h with rfl | h
      · exact w5
      · exact h
    exact word_at hW h2 (hts w h3)
  · have := hy.2
    rw [h] at this
    exact (Option.some.inj this).symm
theorem run_V (C0 : Cx p s m args meth c cc nL own ret) (hM : Met l y (Cond.code y bytes maxL ret' :: WT) rm Pc Qc mc ms free) (hcw : CallB R s args own idx y bytes maxL ret' (Cond.code y bytes maxL ret' :: WT) rm mc ms n) (w2 : Cond.instanceMethod y ∈ WT) (w3 : Cond.selects C y y ∈ WT) (hp : PreV s H C b Pc As)
    (hn : As.length = n) (hsz : ls.size = nL) (hst : st0 = As.reverse ++ .ref b :: rest) (hW : (rest.map fun v => v.category).sum ≤ 8) (hd : decode cc pc = .ok (.invokevirtual idx, 3)) (hf : cells + mc ≤ R.cells ∧ slots + ms ≤ R.slots) :
    va_Run p l e R s m args below meth c H locs cells slots mc ms (F0 m pc ls st0) rest (Qc (Value.ref b :: As).toArray) free := by
  subst hst
  exact va_runV (Ts := WT) ⟨C0.1, C0.2.1, C0.2.2.1, C0.2.2.2.1, C0.2.2.2.2.1⟩ hM ⟨hcw, C0.2.2.2.2.1 _ w2, C0.2.2.2.2.1 _ w3⟩ hp rfl hn hsz rfl (lv_room hW) hd hf
theorem run_S (C0 : Cx p s m args meth c cc nL own ret) (hM : Met l y (Cond.code y bytes maxL ret' :: WT) rm Pc Qc mc ms free) (hcw : CallB R s args own idx y bytes maxL ret' (Cond.code y bytes maxL ret' :: WT) rm mc ms n) (w2 : Cond.static y ∈ WT) (hp : PreS s H Pc As)
    (hn : As.length = n) (hsz : ls.size = nL) (hst : st0 = As.reverse ++ rest) (hW : (rest.map fun v => v.category).sum ≤ 8) (hd : decode cc pc = .ok (.invokestatic idx, 3)) (hf : cells + mc ≤ R.cells ∧ slots + ms ≤ R.slots) :
    va_Run p l e R s m args below meth c H locs cells slots mc ms (F0 m pc ls st0) rest (Qc As.toArray) free := by
  subst hst
  exact va_runS (Ts := WT) ⟨C0.1, C0.2.1, C0.2.2.1, C0.2.2.2.1, C0.2.2.2.2.1⟩ hM ⟨hcw, C0.2.2.2.2.1 _ w2⟩ hp rfl hn hsz rfl (lv_room hW) hd hf
/-- a static method that reads and writes no cell -/
abbrev McS (l : Launch) (y : MethodName) (cc : ByteArray) (nL : Nat) (ret : Option FieldType) (h : Nat) (av : List Value) (r : Option Value) : Prop :=
  Met l y (Cond.code y cc nL ret :: WT) (rmL h) (va_Pc av (fun _ => True)) (fun _ st oc t => oc = .returned r ∧ t.heap = st.heap) 0 0 (fun _ => False)
theorem S_start {av : List Value} {r : Option Value} (hy : plainName y.cls = true) (hlen : (lg_sl av).length ≤ nL)
    (body : ∀ p e s m args below meth c H locs, Cx p s m args meth c cc nL y.cls ret → (H = s.heap ∧ locs = []) → ∀ ls, lv_has ls nL (lv_args 0 av) → W p l e (rmL h) s m args below meth c H locs 0 0 (MQ below (fun _ st oc t => oc = .returned r ∧ t.heap = st.heap) args s 0 0 (fun _ => False)) (F0 m 0 ls [])) :
    McS l y cc nL ret h av r := by
  refine Met.ofW (cc := cc) (maxL := nL) (ret := ret) hy rfl ?_
  intro p e s m args below meth c s₁ B hml hv
  obtain ⟨rfl, -⟩ := hv
  have hts := atoms_spec (ws := Cond.code y cc nL ret :: WT) B.pre
  rw [lg_entry_eq]
  exact body p e s m _ below meth c _ _ ⟨B.exec, B.bytes, hml, findClass_of_methodNamed B.named, fun w hw => hts w (List.mem_cons_of_mem _ hw), B.returns, B.notSynchronized⟩ ⟨rfl, rfl⟩ _ (lv_entry av hlen)
theorem S_iret (C0 : Cx p s m args meth c cc nL own (some .int)) (hI : H = s.heap ∧ locs = []) {v : Int32} (hd : decode cc pc = .ok (.ireturn, 1)) :
    W p l e R s m args below meth c H locs 0 0 (MQ below (fun _ st oc t => oc = .returned (some (.int v)) ∧ t.heap = st.heap) args s 0 0 (fun _ => False)) (F0 m pc ls [.int v]) :=
  W.iret C0.1 C0.2.1 C0.2.2.2.2.2.1 (fun t ht _ => ⟨rfl, ht.trans hI.1⟩) (fun _ h => by rw [hI.2] at h; cases h) hd (hlocks := C0.2.2.2.2.2.2)
theorem S_zret (C0 : Cx p s m args meth c cc nL own (some .boolean)) (hI : H = s.heap ∧ locs = []) {v : Int32} (hb : isB v = true) (hd : decode cc pc = .ok (.ireturn, 1)) :
    W p l e R s m args below meth c H locs 0 0 (MQ below (fun _ st oc t => oc = .returned (some (.int v)) ∧ t.heap = st.heap) args s 0 0 (fun _ => False)) (F0 m pc ls [.int v]) :=
  W.zret C0.1 C0.2.1 C0.2.2.2.2.2.1 (isB_n hb) (fun t ht _ => ⟨rfl, ht.trans hI.1⟩) (fun _ h => by rw [hI.2] at h; cases h) hd (hlocks := C0.2.2.2.2.2.2)
theorem S_lret (C0 : Cx p s m args meth c cc nL own (some .long)) (hI : H = s.heap ∧ locs = []) {v : Int64} (hd : decode cc pc = .ok (.lreturn, 1)) :
    W p l e R s m args below meth c H locs 0 0 (MQ below (fun _ st oc t => oc = .returned (some (.long v)) ∧ t.heap = st.heap) args s 0 0 (fun _ => False)) (F0 m pc ls [.long v]) :=
  W.lret C0.1 C0.2.1 C0.2.2.2.2.2.1 (fun t ht _ => ⟨rfl, ht.trans hI.1⟩) (fun _ h => by rw [hI.2] at h; cases h) hd (hlocks := C0.2.2.2.2.2.2)
/-- a call of such a method -/
theorem S_call {r : Option Value} (C0 : Cx p s m args meth c cc nL own ret) (hM : McS l y bytes maxL ret' h' As r) (w1 : Cond.methodLink own idx y ∈ WT) (w2 : Cond.static y ∈ WT) (w4 : Cond.initialized y.cls ∈ WT) (w5 : Cond.code y bytes maxL ret' ∈ WT)
    (hy : (y.cls ≠ "java/lang/invoke/MethodHandle" ∧ y.cls ≠ "java/lang/invoke/VarHandle") ∧ (parseMethodDescriptor y.desc).map (fun d => d.parameters.length) = some n) (hn : As.length = n) (hR : h' + 1 ≤ h ∧ maxL ≤ 41)
    (hsz : ls.size = nL) (hst : st0 = As.reverse ++ rest) (hW : (rest.map fun v => v.category).sum ≤ 8) (hd : decode cc pc = .ok (.invokestatic idx, 3)) (hc : cells ≤ R.cells ∧ slots ≤ R.slots ∧ h ≤ R.frames ∧ 60 * h ≤ R.locals)
    (kk : W p l e R s m args below meth c H locs cells slots Q (F0 m (pc + 3) ls (r.toList ++ rest))) :
    W p l e R s m args below meth c H locs cells slots Q (F0 m pc ls st0) := by
  have hr := run_S (l := l) (e := e) (below := below) (H := H) (locs := locs) (cells := cells) (slots := slots) (R := R) (rm := rmL h') C0 hM (wt_callB (rm := rmL h') C0 w1 w4 w5 rfl rfl hy ⟨by have := hR.1; show h' + 1 ≤ R.frames; omega, by have := hR.1; have := hR.2; show 8 + (maxL + 11) + 60 * h' ≤ R.locals; omega⟩) w2
    ⟨fun a U g mk q => q, fun U hU hW => ⟨rfl, trivial⟩⟩ hn hsz hst hW hd ⟨hc.1, hc.2.1⟩
  intro T hT X
  obtain ⟨v, st₀, t, T', L, h0, X', hL, e1, e2, ⟨hv, hh⟩, st⟩ := hr T hT X
  cases hv
  have hLn : L = [] := List.eq_nil_iff_forall_not_mem.mpr (fun q hq => hL q hq)
  subst hLn
  rw [List.append_nil] at X'
  obtain ⟨t2, a1, b1⟩ := kk T' (by rw [e1, hh, h0]) X'
  exact ⟨t2, st t2 a1, b1⟩
end Runs
theorem tab_out4 {x : Int32} (c0 : ¬ x = 0) (c1 : ¬ x = 1) (c2 : ¬ x = 2) (c3 : ¬ x = 3) : x.toInt < 0 ∨ 3 < x.toInt := by
  have h0 : x.toInt ≠ 0 := fun h => c0 (Int32.toInt_inj.mp h)
  have h1 : x.toInt ≠ 1 := fun h => c1 (Int32.toInt_inj.mp h)
  have h2 : x.toInt ≠ 2 := fun h => c2 (Int32.toInt_inj.mp h)
  have h3 : x.toInt ≠ 3 := fun h => c3 (Int32.toInt_inj.mp h)
  omega
theorem tab_out8 {x : Int32} (c0 : ¬ x = 0) (c1 : ¬ x = 1) (c2 : ¬ x = 2) (c3 : ¬ x = 3) (c4 : ¬ x = 4) (c5 : ¬ x = 5) (c6 : ¬ x = 6) (c7 : ¬ x = 7) : x.toInt < 0 ∨ 7 < x.toInt := by
  have h0 : x.toInt ≠ 0 := fun h => c0 (Int32.toInt_inj.mp h)
  have h1 : x.toInt ≠ 1 := fun h => c1 (Int32.toInt_inj.mp h)
  have h2 : x.toInt ≠ 2 := fun h => c2 (Int32.toInt_inj.mp h)
  have h3 : x.toInt ≠ 3 := fun h => c3 (Int32.toInt_inj.mp h)
  have h4 : x.toInt ≠ 4 := fun h => c4 (Int32.toInt_inj.mp h)
  have h5 : x.toInt ≠ 5 := fun h => c5 (Int32.toInt_inj.mp h)
  have h6 : x.toInt ≠ 6 := fun h => c6 (Int32.toInt_inj.mp h)
  have h7 : x.toInt ≠ 7 := fun h => c7 (Int32.toInt_inj.mp h)
  omega
theorem tab_out40 {x : Int32} (c0 : ¬ x = 0) (c1 : ¬ x = 1) (c2 : ¬ x = 2) (c3 : ¬ x = 3) (c4 : ¬ x = 4) (c5 : ¬ x = 5) (c6 : ¬ x = 6) (c7 : ¬ x = 7) (c8 : ¬ x = 8) (c9 : ¬ x = 9) (c10 : ¬ x = 10) (c11 : ¬ x = 11) (c12 : ¬ x = 12) (c13 : ¬ x = 13) (c14 : ¬ x = 14) (c15 : ¬ x = 15) (c16 : ¬ x = 16) (c17 : ¬ x = 17) (c18 : ¬ x = 18) (c19 : ¬ x = 19) (c20 : ¬ x = 20) (c21 : ¬ x = 21) (c22 : ¬ x = 22) (c23 : ¬ x = 23) (c24 : ¬ x = 24) (c25 : ¬ x = 25) (c26 : ¬ x = 26) (c27 : ¬ x = 27) (c28 : ¬ x = 28) (c29 : ¬ x = 29) (c30 : ¬ x = 30) (c31 : ¬ x = 31) (c32 : ¬ x = 32) (c33 : ¬ x = 33) (c34 : ¬ x = 34) (c35 : ¬ x = 35) (c36 : ¬ x = 36) (c37 : ¬ x = 37) (c38 : ¬ x = 38) (c39 : ¬ x = 39) : x.toInt < 0 ∨ 39 < x.toInt := by
  have h0 : x.toInt ≠ 0 := fun h => c0 (Int32.toInt_inj.mp h)
  have h1 : x.toInt ≠ 1 := fun h => c1 (Int32.toInt_inj.mp h)
  have h2 : x.toInt ≠ 2 := fun h => c2 (Int32.toInt_inj.mp h)
  have h3 : x.toInt ≠ 3 := fun h => c3 (Int32.toInt_inj.mp h)
  have h4 : x.toInt ≠ 4 := fun h => c4 (Int32.toInt_inj.mp h)
  have h5 : x.toInt ≠ 5 := fun h => c5 (Int32.toInt_inj.mp h)
  have h6 : x.toInt ≠ 6 := fun h => c6 (Int32.toInt_inj.mp h)
  have h7 : x.toInt ≠ 7 := fun h => c7 (Int32.toInt_inj.mp h)
  have h8 : x.toInt ≠ 8 := fun h => c8 (Int32.toInt_inj.mp h)
  have h9 : x.toInt ≠ 9 := fun h => c9 (Int32.toInt_inj.mp h)
  have h10 : x.toInt ≠ 10 := fun h => c10 (Int32.toInt_inj.mp h)
  have h11 : x.toInt ≠ 11 := fun h => c11 (Int32.toInt_inj.mp h)
  have h12 : x.toInt ≠ 12 := fun h => c12 (Int32.toInt_inj.mp h)
  have h13 : x.toInt ≠ 13 := fun h => c13 (Int32.toInt_inj.mp h)
  have h14 : x.toInt ≠ 14 := fun h => c14 (Int32.toInt_inj.mp h)
  have h15 : x.toInt ≠ 15 := fun h => c15 (Int32.toInt_inj.mp h)
  have h16 : x.toInt ≠ 16 := fun h => c16 (Int32.toInt_inj.mp h)
  have h17 : x.toInt ≠ 17 := fun h => c17 (Int32.toInt_inj.mp h)
  have h18 : x.toInt ≠ 18 := fun h => c18 (Int32.toInt_inj.mp h)
  have h19 : x.toInt ≠ 19 := fun h => c19 (Int32.toInt_inj.mp h)
  have h20 : x.toInt ≠ 20 := fun h => c20 (Int32.toInt_inj.mp h)
  have h21 : x.toInt ≠ 21 := fun h => c21 (Int32.toInt_inj.mp h)
  have h22 : x.toInt ≠ 22 := fun h => c22 (Int32.toInt_inj.mp h)
  have h23 : x.toInt ≠ 23 := fun h => c23 (Int32.toInt_inj.mp h)
  have h24 : x.toInt ≠ 24 := fun h => c24 (Int32.toInt_inj.mp h)
  have h25 : x.toInt ≠ 25 := fun h => c25 (Int32.toInt_inj.mp h)
  have h26 : x.toInt ≠ 26 := fun h => c26 (Int32.toInt_inj.mp h)
  have h27 : x.toInt ≠ 27 := fun h => c27 (Int32.toInt_inj.mp h)
  have h28 : x.toInt ≠ 28 := fun h => c28 (Int32.toInt_inj.mp h)
  have h29 : x.toInt ≠ 29 := fun h => c29 (Int32.toInt_inj.mp h)
  have h30 : x.toInt ≠ 30 := fun h => c30 (Int32.toInt_inj.mp h)
  have h31 : x.toInt ≠ 31 := fun h => c31 (Int32.toInt_inj.mp h)
  have h32 : x.toInt ≠ 32 := fun h => c32 (Int32.toInt_inj.mp h)
  have h33 : x.toInt ≠ 33 := fun h => c33 (Int32.toInt_inj.mp h)
  have h34 : x.toInt ≠ 34 := fun h => c34 (Int32.toInt_inj.mp h)
  have h35 : x.toInt ≠ 35 := fun h => c35 (Int32.toInt_inj.mp h)
  have h36 : x.toInt ≠ 36 := fun h => c36 (Int32.toInt_inj.mp h)
  have h37 : x.toInt ≠ 37 := fun h => c37 (Int32.toInt_inj.mp h)
  have h38 : x.toInt ≠ 38 := fun h => c38 (Int32.toInt_inj.mp h)
  have h39 : x.toInt ≠ 39 := fun h => c39 (Int32.toInt_inj.mp h)
  omega
theorem hyX0_init : (yX0_init.cls ≠ "java/lang/invoke/MethodHandle" ∧ yX0_init.cls ≠ "java/lang/invoke/VarHandle") ∧ (parseMethodDescriptor yX0_init.desc).map (fun d => d.parameters.length) = some 0 := by decide +kernel
theorem hyX0_faceJoint : (yX0_faceJoint.cls ≠ "java/lang/invoke/MethodHandle" ∧ yX0_faceJoint.cls ≠ "java/lang/invoke/VarHandle") ∧ (parseMethodDescriptor yX0_faceJoint.desc).map (fun d => d.parameters.length) = some 3 := by decide +kernel
theorem hyX0_faceWind : (yX0_faceWind.cls ≠ "java/lang/invoke/MethodHandle" ∧ yX0_faceWind.cls ≠ "java/lang/invoke/VarHandle") ∧ (parseMethodDescriptor yX0_faceWind.desc).map (fun d => d.parameters.length) = some 2 := by decide +kernel
theorem hyX0_faceTower : (yX0_faceTower.cls ≠ "java/lang/invoke/MethodHandle" ∧ yX0_faceTower.cls ≠ "java/lang/invoke/VarHandle") ∧ (parseMethodDescriptor yX0_faceTower.desc).map (fun d => d.parameters.length) = some 2 := by decide +kernel
theorem hyX0_tells : (yX0_tells.cls ≠ "java/lang/invoke/MethodHandle" ∧ yX0_tells.cls ≠ "java/lang/invoke/VarHandle") ∧ (parseMethodDescriptor yX0_tells.desc).map (fun d => d.parameters.length) = some 2 := by decide +kernel
theorem hyX0_isHolding : (yX0_isHolding.cls ≠ "java/lang/invoke/MethodHandle" ∧ yX0_isHolding.cls ≠ "java/lang/invoke/VarHandle") ∧ (parseMethodDescriptor yX0_isHolding.desc).map (fun d => d.parameters.length) = some 2 := by decide +kernel
theorem hyX0_works : (yX0_works.cls ≠ "java/lang/invoke/MethodHandle" ∧ yX0_works.cls ≠ "java/lang/invoke/VarHandle") ∧ (parseMethodDescriptor yX0_works.desc).map (fun d => d.parameters.length) = some 3 := by decide +kernel
theorem hyX0_valueOf : (yX0_valueOf.cls ≠ "java/lang/invoke/MethodHandle" ∧ yX0_valueOf.cls ≠ "java/lang/invoke/VarHandle") ∧ (parseMethodDescriptor yX0_valueOf.desc).map (fun d => d.parameters.length) = some 1 := by decide +kernel
theorem hyX0_push : (yX0_push.cls ≠ "java/lang/invoke/MethodHandle" ∧ yX0_push.cls ≠ "java/lang/invoke/VarHandle") ∧ (parseMethodDescriptor yX0_push.desc).map (fun d => d.parameters.length) = some 1 := by decide +kernel
theorem hyX0_pop : (yX0_pop.cls ≠ "java/lang/invoke/MethodHandle" ∧ yX0_pop.cls ≠ "java/lang/invoke/VarHandle") ∧ (parseMethodDescriptor yX0_pop.desc).map (fun d => d.parameters.length) = some 0 := by decide +kernel
theorem hyX0_joins : (yX0_joins.cls ≠ "java/lang/invoke/MethodHandle" ∧ yX0_joins.cls ≠ "java/lang/invoke/VarHandle") ∧ (parseMethodDescriptor yX0_joins.desc).map (fun d => d.parameters.length) = some 1 := by decide +kernel
theorem hyX1_init : (yX1_init.cls ≠ "java/lang/invoke/MethodHandle" ∧ yX1_init.cls ≠ "java/lang/invoke/VarHandle") ∧ (parseMethodDescriptor yX1_init.desc).map (fun d => d.parameters.length) = some 1 := by decide +kernel
theorem hyX1_ready : (yX1_ready.cls ≠ "java/lang/invoke/MethodHandle" ∧ yX1_ready.cls ≠ "java/lang/invoke/VarHandle") ∧ (parseMethodDescriptor yX1_ready.desc).map (fun d => d.parameters.length) = some 0 := by decide +kernel
theorem hyX1_standLegAt : (yX1_standLegAt.cls ≠ "java/lang/invoke/MethodHandle" ∧ yX1_standLegAt.cls ≠ "java/lang/invoke/VarHandle") ∧ (parseMethodDescriptor yX1_standLegAt.desc).map (fun d => d.parameters.length) = some 1 := by decide +kernel
theorem hyX1_blow : (yX1_blow.cls ≠ "java/lang/invoke/MethodHandle" ∧ yX1_blow.cls ≠ "java/lang/invoke/VarHandle") ∧ (parseMethodDescriptor yX1_blow.desc).map (fun d => d.parameters.length) = some 2 := by decide +kernel
theorem hyX1_stands : (yX1_stands.cls ≠ "java/lang/invoke/MethodHandle" ∧ yX1_stands.cls ≠ "java/lang/invoke/VarHandle") ∧ (parseMethodDescriptor yX1_stands.desc).map (fun d => d.parameters.length) = some 2 := by decide +kernel
theorem hyX1_addStiffs : (yX1_addStiffs.cls ≠ "java/lang/invoke/MethodHandle" ∧ yX1_addStiffs.cls ≠ "java/lang/invoke/VarHandle") ∧ (parseMethodDescriptor yX1_addStiffs.desc).map (fun d => d.parameters.length) = some 2 := by decide +kernel
theorem hyX1_hasCommonDivisors : (yX1_hasCommonDivisors.cls ≠ "java/lang/invoke/MethodHandle" ∧ yX1_hasCommonDivisors.cls ≠ "java/lang/invoke/VarHandle") ∧ (parseMethodDescriptor yX1_hasCommonDivisors.desc).map (fun d => d.parameters.length) = some 1 := by decide +kernel
theorem hyX1_pullOf : (yX1_pullOf.cls ≠ "java/lang/invoke/MethodHandle" ∧ yX1_pullOf.cls ≠ "java/lang/invoke/VarHandle") ∧ (parseMethodDescriptor yX1_pullOf.desc).map (fun d => d.parameters.length) = some 1 := by decide +kernel
theorem hyX1_faceOf : (yX1_faceOf.cls ≠ "java/lang/invoke/MethodHandle" ∧ yX1_faceOf.cls ≠ "java/lang/invoke/VarHandle") ∧ (parseMethodDescriptor yX1_faceOf.desc).map (fun d => d.parameters.length) = some 1 := by decide +kernel
theorem hyX1_thousandths : (yX1_thousandths.cls ≠ "java/lang/invoke/MethodHandle" ∧ yX1_thousandths.cls ≠ "java/lang/invoke/VarHandle") ∧ (parseMethodDescriptor yX1_thousandths.desc).map (fun d => d.parameters.length) = some 1 := by decide +kernel
theorem hyX1_loadOf : (yX1_loadOf.cls ≠ "java/lang/invoke/MethodHandle" ∧ yX1_loadOf.cls ≠ "java/lang/invoke/VarHandle") ∧ (parseMethodDescriptor yX1_loadOf.desc).map (fun d => d.parameters.length) = some 1 := by decide +kernel
theorem hyX1_look : (yX1_look.cls ≠ "java/lang/invoke/MethodHandle" ∧ yX1_look.cls ≠ "java/lang/invoke/VarHandle") ∧ (parseMethodDescriptor yX1_look.desc).map (fun d => d.parameters.length) = some 1 := by decide +kernel
theorem hyX1_breakUp : (yX1_breakUp.cls ≠ "java/lang/invoke/MethodHandle" ∧ yX1_breakUp.cls ≠ "java/lang/invoke/VarHandle") ∧ (parseMethodDescriptor yX1_breakUp.desc).map (fun d => d.parameters.length) = some 2 := by decide +kernel
theorem hyX1_worstOfAll : (yX1_worstOfAll.cls ≠ "java/lang/invoke/MethodHandle" ∧ yX1_worstOfAll.cls ≠ "java/lang/invoke/VarHandle") ∧ (parseMethodDescriptor yX1_worstOfAll.desc).map (fun d => d.parameters.length) = some 0 := by decide +kernel
theorem hyX1_fallsOf : (yX1_fallsOf.cls ≠ "java/lang/invoke/MethodHandle" ∧ yX1_fallsOf.cls ≠ "java/lang/invoke/VarHandle") ∧ (parseMethodDescriptor yX1_fallsOf.desc).map (fun d => d.parameters.length) = some 2 := by decide +kernel
theorem hyX1_fallsOfAll : (yX1_fallsOfAll.cls ≠ "java/lang/invoke/MethodHandle" ∧ yX1_fallsOfAll.cls ≠ "java/lang/invoke/VarHandle") ∧ (parseMethodDescriptor yX1_fallsOfAll.desc).map (fun d => d.parameters.length) = some 1 := by decide +kernel
theorem hyX1_fallsAnew : (yX1_fallsAnew.cls ≠ "java/lang/invoke/MethodHandle" ∧ yX1_fallsAnew.cls ≠ "java/lang/invoke/VarHandle") ∧ (parseMethodDescriptor yX1_fallsAnew.desc).map (fun d => d.parameters.length) = some 2 := by decide +kernel
theorem hyX1_allFalls : (yX1_allFalls.cls ≠ "java/lang/invoke/MethodHandle" ∧ yX1_allFalls.cls ≠ "java/lang/invoke/VarHandle") ∧ (parseMethodDescriptor yX1_allFalls.desc).map (fun d => d.parameters.length) = some 0 := by decide +kernel
theorem hyX1_stirsOf : (yX1_stirsOf.cls ≠ "java/lang/invoke/MethodHandle" ∧ yX1_stirsOf.cls ≠ "java/lang/invoke/VarHandle") ∧ (parseMethodDescriptor yX1_stirsOf.desc).map (fun d => d.parameters.length) = some 2 := by decide +kernel
theorem hyX1_facesAreEnough : (yX1_facesAreEnough.cls ≠ "java/lang/invoke/MethodHandle" ∧ yX1_facesAreEnough.cls ≠ "java/lang/invoke/VarHandle") ∧ (parseMethodDescriptor yX1_facesAreEnough.desc).map (fun d => d.parameters.length) = some 1 := by decide +kernel
theorem hyX1_facesAreEnoughForAll : (yX1_facesAreEnoughForAll.cls ≠ "java/lang/invoke/MethodHandle" ∧ yX1_facesAreEnoughForAll.cls ≠ "java/lang/invoke/VarHandle") ∧ (parseMethodDescriptor yX1_facesAreEnoughForAll.desc).map (fun d => d.parameters.length) = some 0 := by decide +kernel
theorem hyX2_init : (yX2_init.cls ≠ "java/lang/invoke/MethodHandle" ∧ yX2_init.cls ≠ "java/lang/invoke/VarHandle") ∧ (parseMethodDescriptor yX2_init.desc).map (fun d => d.parameters.length) = some 2 := by decide +kernel
theorem hyX2_isWished : (yX2_isWished.cls ≠ "java/lang/invoke/MethodHandle" ∧ yX2_isWished.cls ≠ "java/lang/invoke/VarHandle") ∧ (parseMethodDescriptor yX2_isWished.desc).map (fun d => d.parameters.length) = some 1 := by decide +kernel
theorem hyX2_canBe : (yX2_canBe.cls ≠ "java/lang/invoke/MethodHandle" ∧ yX2_canBe.cls ≠ "java/lang/invoke/VarHandle") ∧ (parseMethodDescriptor yX2_canBe.desc).map (fun d => d.parameters.length) = some 0 := by decide +kernel
theorem hyX2_sets : (yX2_sets.cls ≠ "java/lang/invoke/MethodHandle" ∧ yX2_sets.cls ≠ "java/lang/invoke/VarHandle") ∧ (parseMethodDescriptor yX2_sets.desc).map (fun d => d.parameters.length) = some 0 := by decide +kernel
theorem hyX2_weighSets : (yX2_weighSets.cls ≠ "java/lang/invoke/MethodHandle" ∧ yX2_weighSets.cls ≠ "java/lang/invoke/VarHandle") ∧ (parseMethodDescriptor yX2_weighSets.desc).map (fun d => d.parameters.length) = some 0 := by decide +kernel
theorem hyX2_addFallsOf : (yX2_addFallsOf.cls ≠ "java/lang/invoke/MethodHandle" ∧ yX2_addFallsOf.cls ≠ "java/lang/invoke/VarHandle") ∧ (parseMethodDescriptor yX2_addFallsOf.desc).map (fun d => d.parameters.length) = some 1 := by decide +kernel
theorem hyX2_wishesIn : (yX2_wishesIn.cls ≠ "java/lang/invoke/MethodHandle" ∧ yX2_wishesIn.cls ≠ "java/lang/invoke/VarHandle") ∧ (parseMethodDescriptor yX2_wishesIn.desc).map (fun d => d.parameters.length) = some 1 := by decide +kernel
theorem hyX2_mend : (yX2_mend.cls ≠ "java/lang/invoke/MethodHandle" ∧ yX2_mend.cls ≠ "java/lang/invoke/VarHandle") ∧ (parseMethodDescriptor yX2_mend.desc).map (fun d => d.parameters.length) = some 1 := by decide +kernel
theorem hyX2_weighRows : (yX2_weighRows.cls ≠ "java/lang/invoke/MethodHandle" ∧ yX2_weighRows.cls ≠ "java/lang/invoke/VarHandle") ∧ (parseMethodDescriptor yX2_weighRows.desc).map (fun d => d.parameters.length) = some 0 := by decide +kernel
theorem hyX2_nextWish : (yX2_nextWish.cls ≠ "java/lang/invoke/MethodHandle" ∧ yX2_nextWish.cls ≠ "java/lang/invoke/VarHandle") ∧ (parseMethodDescriptor yX2_nextWish.desc).map (fun d => d.parameters.length) = some 1 := by decide +kernel
theorem hyX2_keepRow : (yX2_keepRow.cls ≠ "java/lang/invoke/MethodHandle" ∧ yX2_keepRow.cls ≠ "java/lang/invoke/VarHandle") ∧ (parseMethodDescriptor yX2_keepRow.desc).map (fun d => d.parameters.length) = some 0 := by decide +kernel
theorem hyX2_leastSum : (yX2_leastSum.cls ≠ "java/lang/invoke/MethodHandle" ∧ yX2_leastSum.cls ≠ "java/lang/invoke/VarHandle") ∧ (parseMethodDescriptor yX2_leastSum.desc).map (fun d => d.parameters.length) = some 0 := by decide +kernel
theorem hyX3_init : (yX3_init.cls ≠ "java/lang/invoke/MethodHandle" ∧ yX3_init.cls ≠ "java/lang/invoke/VarHandle") ∧ (parseMethodDescriptor yX3_init.desc).map (fun d => d.parameters.length) = some 0 := by decide +kernel
theorem hyX3_read : (yX3_read.cls ≠ "java/lang/invoke/MethodHandle" ∧ yX3_read.cls ≠ "java/lang/invoke/VarHandle") ∧ (parseMethodDescriptor yX3_read.desc).map (fun d => d.parameters.length) = some 2 := by decide +kernel
theorem hyX3_advance : (yX3_advance.cls ≠ "java/lang/invoke/MethodHandle" ∧ yX3_advance.cls ≠ "java/lang/invoke/VarHandle") ∧ (parseMethodDescriptor yX3_advance.desc).map (fun d => d.parameters.length) = some 0 := by decide +kernel
theorem hyX3_isLetter : (yX3_isLetter.cls ≠ "java/lang/invoke/MethodHandle" ∧ yX3_isLetter.cls ≠ "java/lang/invoke/VarHandle") ∧ (parseMethodDescriptor yX3_isLetter.desc).map (fun d => d.parameters.length) = some 1 := by decide +kernel
theorem hyX3_isDigit : (yX3_isDigit.cls ≠ "java/lang/invoke/MethodHandle" ∧ yX3_isDigit.cls ≠ "java/lang/invoke/VarHandle") ∧ (parseMethodDescriptor yX3_isDigit.desc).map (fun d => d.parameters.length) = some 1 := by decide +kernel
theorem hyX3_takeWord : (yX3_takeWord.cls ≠ "java/lang/invoke/MethodHandle" ∧ yX3_takeWord.cls ≠ "java/lang/invoke/VarHandle") ∧ (parseMethodDescriptor yX3_takeWord.desc).map (fun d => d.parameters.length) = some 0 := by decide +kernel
theorem hyX3_isWord : (yX3_isWord.cls ≠ "java/lang/invoke/MethodHandle" ∧ yX3_isWord.cls ≠ "java/lang/invoke/VarHandle") ∧ (parseMethodDescriptor yX3_isWord.desc).map (fun d => d.parameters.length) = some 1 := by decide +kernel
theorem hyX3_takeNumber : (yX3_takeNumber.cls ≠ "java/lang/invoke/MethodHandle" ∧ yX3_takeNumber.cls ≠ "java/lang/invoke/VarHandle") ∧ (parseMethodDescriptor yX3_takeNumber.desc).map (fun d => d.parameters.length) = some 0 := by decide +kernel
theorem hyX3_write : (yX3_write.cls ≠ "java/lang/invoke/MethodHandle" ∧ yX3_write.cls ≠ "java/lang/invoke/VarHandle") ∧ (parseMethodDescriptor yX3_write.desc).map (fun d => d.parameters.length) = some 2 := by decide +kernel
theorem hyX3_readClause : (yX3_readClause.cls ≠ "java/lang/invoke/MethodHandle" ∧ yX3_readClause.cls ≠ "java/lang/invoke/VarHandle") ∧ (parseMethodDescriptor yX3_readClause.desc).map (fun d => d.parameters.length) = some 0 := by decide +kernel
theorem hyX3_noteClause : (yX3_noteClause.cls ≠ "java/lang/invoke/MethodHandle" ∧ yX3_noteClause.cls ≠ "java/lang/invoke/VarHandle") ∧ (parseMethodDescriptor yX3_noteClause.desc).map (fun d => d.parameters.length) = some 3 := by decide +kernel
theorem hyX3_readTest : (yX3_readTest.cls ≠ "java/lang/invoke/MethodHandle" ∧ yX3_readTest.cls ≠ "java/lang/invoke/VarHandle") ∧ (parseMethodDescriptor yX3_readTest.desc).map (fun d => d.parameters.length) = some 1 := by decide +kernel
theorem hyX3_readBoth : (yX3_readBoth.cls ≠ "java/lang/invoke/MethodHandle" ∧ yX3_readBoth.cls ≠ "java/lang/invoke/VarHandle") ∧ (parseMethodDescriptor yX3_readBoth.desc).map (fun d => d.parameters.length) = some 1 := by decide +kernel
theorem hyX3_land : (yX3_land.cls ≠ "java/lang/invoke/MethodHandle" ∧ yX3_land.cls ≠ "java/lang/invoke/VarHandle") ∧ (parseMethodDescriptor yX3_land.desc).map (fun d => d.parameters.length) = some 1 := by decide +kernel
theorem hyX3_readPlain : (yX3_readPlain.cls ≠ "java/lang/invoke/MethodHandle" ∧ yX3_readPlain.cls ≠ "java/lang/invoke/VarHandle") ∧ (parseMethodDescriptor yX3_readPlain.desc).map (fun d => d.parameters.length) = some 1 := by decide +kernel
theorem hyX3_readComparison : (yX3_readComparison.cls ≠ "java/lang/invoke/MethodHandle" ∧ yX3_readComparison.cls ≠ "java/lang/invoke/VarHandle") ∧ (parseMethodDescriptor yX3_readComparison.desc).map (fun d => d.parameters.length) = some 1 := by decide +kernel
theorem hyX3_readSum : (yX3_readSum.cls ≠ "java/lang/invoke/MethodHandle" ∧ yX3_readSum.cls ≠ "java/lang/invoke/VarHandle") ∧ (parseMethodDescriptor yX3_readSum.desc).map (fun d => d.parameters.length) = some 1 := by decide +kernel
theorem hyX3_readTerm : (yX3_readTerm.cls ≠ "java/lang/invoke/MethodHandle" ∧ yX3_readTerm.cls ≠ "java/lang/invoke/VarHandle") ∧ (parseMethodDescriptor yX3_readTerm.desc).map (fun d => d.parameters.length) = some 1 := by decide +kernel
theorem hyX3_readPart : (yX3_readPart.cls ≠ "java/lang/invoke/MethodHandle" ∧ yX3_readPart.cls ≠ "java/lang/invoke/VarHandle") ∧ (parseMethodDescriptor yX3_readPart.desc).map (fun d => d.parameters.length) = some 1 := by decide +kernel
theorem hyX3_readBracketed : (yX3_readBracketed.cls ≠ "java/lang/invoke/MethodHandle" ∧ yX3_readBracketed.cls ≠ "java/lang/invoke/VarHandle") ∧ (parseMethodDescriptor yX3_readBracketed.desc).map (fun d => d.parameters.length) = some 2 := by decide +kernel
theorem hyX3_readLeaf : (yX3_readLeaf.cls ≠ "java/lang/invoke/MethodHandle" ∧ yX3_readLeaf.cls ≠ "java/lang/invoke/VarHandle") ∧ (parseMethodDescriptor yX3_readLeaf.desc).map (fun d => d.parameters.length) = some 0 := by decide +kernel
theorem hyX4_init : (yX4_init.cls ≠ "java/lang/invoke/MethodHandle" ∧ yX4_init.cls ≠ "java/lang/invoke/VarHandle") ∧ (parseMethodDescriptor yX4_init.desc).map (fun d => d.parameters.length) = some 0 := by decide +kernel
theorem hyX4_become : (yX4_become.cls ≠ "java/lang/invoke/MethodHandle" ∧ yX4_become.cls ≠ "java/lang/invoke/VarHandle") ∧ (parseMethodDescriptor yX4_become.desc).map (fun d => d.parameters.length) = some 1 := by decide +kernel
theorem hyX4_holdOf : (yX4_holdOf.cls ≠ "java/lang/invoke/MethodHandle" ∧ yX4_holdOf.cls ≠ "java/lang/invoke/VarHandle") ∧ (parseMethodDescriptor yX4_holdOf.desc).map (fun d => d.parameters.length) = some 1 := by decide +kernel
theorem hyX4_isOnFace : (yX4_isOnFace.cls ≠ "java/lang/invoke/MethodHandle" ∧ yX4_isOnFace.cls ≠ "java/lang/invoke/VarHandle") ∧ (parseMethodDescriptor yX4_isOnFace.desc).map (fun d => d.parameters.length) = some 1 := by decide +kernel
theorem hyX4_currents : (yX4_currents.cls ≠ "java/lang/invoke/MethodHandle" ∧ yX4_currents.cls ≠ "java/lang/invoke/VarHandle") ∧ (parseMethodDescriptor yX4_currents.desc).map (fun d => d.parameters.length) = some 0 := by decide +kernel
theorem hyX4_yearOf : (yX4_yearOf.cls ≠ "java/lang/invoke/MethodHandle" ∧ yX4_yearOf.cls ≠ "java/lang/invoke/VarHandle") ∧ (parseMethodDescriptor yX4_yearOf.desc).map (fun d => d.parameters.length) = some 2 := by decide +kernel
theorem hyX4_learn : (yX4_learn.cls ≠ "java/lang/invoke/MethodHandle" ∧ yX4_learn.cls ≠ "java/lang/invoke/VarHandle") ∧ (parseMethodDescriptor yX4_learn.desc).map (fun d => d.parameters.length) = some 3 := by decide +kernel
theorem hyX4_firstOfOthers : (yX4_firstOfOthers.cls ≠ "java/lang/invoke/MethodHandle" ∧ yX4_firstOfOthers.cls ≠ "java/lang/invoke/VarHandle") ∧ (parseMethodDescriptor yX4_firstOfOthers.desc).map (fun d => d.parameters.length) = some 2 := by decide +kernel
theorem hyX4_peopleUnder : (yX4_peopleUnder.cls ≠ "java/lang/invoke/MethodHandle" ∧ yX4_peopleUnder.cls ≠ "java/lang/invoke/VarHandle") ∧ (parseMethodDescriptor yX4_peopleUnder.desc).map (fun d => d.parameters.length) = some 2 := by decide +kernel
theorem hyX4_costAt : (yX4_costAt.cls ≠ "java/lang/invoke/MethodHandle" ∧ yX4_costAt.cls ≠ "java/lang/invoke/VarHandle") ∧ (parseMethodDescriptor yX4_costAt.desc).map (fun d => d.parameters.length) = some 1 := by decide +kernel
theorem hyX4_hoursLeft : (yX4_hoursLeft.cls ≠ "java/lang/invoke/MethodHandle" ∧ yX4_hoursLeft.cls ≠ "java/lang/invoke/VarHandle") ∧ (parseMethodDescriptor yX4_hoursLeft.desc).map (fun d => d.parameters.length) = some 2 := by decide +kernel
theorem hyX5_init : (yX5_init.cls ≠ "java/lang/invoke/MethodHandle" ∧ yX5_init.cls ≠ "java/lang/invoke/VarHandle") ∧ (parseMethodDescriptor yX5_init.desc).map (fun d => d.parameters.length) = some 2 := by decide +kernel
theorem hyX5_isFull : (yX5_isFull.cls ≠ "java/lang/invoke/MethodHandle" ∧ yX5_isFull.cls ≠ "java/lang/invoke/VarHandle") ∧ (parseMethodDescriptor yX5_isFull.desc).map (fun d => d.parameters.length) = some 0 := by decide +kernel
theorem hyX5_open : (yX5_open.cls ≠ "java/lang/invoke/MethodHandle" ∧ yX5_open.cls ≠ "java/lang/invoke/VarHandle") ∧ (parseMethodDescriptor yX5_open.desc).map (fun d => d.parameters.length) = some 0 := by decide +kernel
theorem hyX5_put : (yX5_put.cls ≠ "java/lang/invoke/MethodHandle" ∧ yX5_put.cls ≠ "java/lang/invoke/VarHandle") ∧ (parseMethodDescriptor yX5_put.desc).map (fun d => d.parameters.length) = some 2 := by decide +kernel
theorem hyX5_cell : (yX5_cell.cls ≠ "java/lang/invoke/MethodHandle" ∧ yX5_cell.cls ≠ "java/lang/invoke/VarHandle") ∧ (parseMethodDescriptor yX5_cell.desc).map (fun d => d.parameters.length) = some 2 := by decide +kernel
theorem hyX5_become : (yX5_become.cls ≠ "java/lang/invoke/MethodHandle" ∧ yX5_become.cls ≠ "java/lang/invoke/VarHandle") ∧ (parseMethodDescriptor yX5_become.desc).map (fun d => d.parameters.length) = some 1 := by decide +kernel
theorem hyX6_init : (yX6_init.cls ≠ "java/lang/invoke/MethodHandle" ∧ yX6_init.cls ≠ "java/lang/invoke/VarHandle") ∧ (parseMethodDescriptor yX6_init.desc).map (fun d => d.parameters.length) = some 2 := by decide +kernel
theorem hyX7_init : (yX7_init.cls ≠ "java/lang/invoke/MethodHandle" ∧ yX7_init.cls ≠ "java/lang/invoke/VarHandle") ∧ (parseMethodDescriptor yX7_init.desc).map (fun d => d.parameters.length) = some 0 := by decide +kernel
theorem hyX7_stiff : (yX7_stiff.cls ≠ "java/lang/invoke/MethodHandle" ∧ yX7_stiff.cls ≠ "java/lang/invoke/VarHandle") ∧ (parseMethodDescriptor yX7_stiff.desc).map (fun d => d.parameters.length) = some 2 := by decide +kernel
theorem hyX7_tier : (yX7_tier.cls ≠ "java/lang/invoke/MethodHandle" ∧ yX7_tier.cls ≠ "java/lang/invoke/VarHandle") ∧ (parseMethodDescriptor yX7_tier.desc).map (fun d => d.parameters.length) = some 3 := by decide +kernel
theorem hyX7_terms : (yX7_terms.cls ≠ "java/lang/invoke/MethodHandle" ∧ yX7_terms.cls ≠ "java/lang/invoke/VarHandle") ∧ (parseMethodDescriptor yX7_terms.desc).map (fun d => d.parameters.length) = some 2 := by decide +kernel
theorem hyX7_wind : (yX7_wind.cls ≠ "java/lang/invoke/MethodHandle" ∧ yX7_wind.cls ≠ "java/lang/invoke/VarHandle") ∧ (parseMethodDescriptor yX7_wind.desc).map (fun d => d.parameters.length) = some 3 := by decide +kernel
theorem hyX7_plate : (yX7_plate.cls ≠ "java/lang/invoke/MethodHandle" ∧ yX7_plate.cls ≠ "java/lang/invoke/VarHandle") ∧ (parseMethodDescriptor yX7_plate.desc).map (fun d => d.parameters.length) = some 2 := by decide +kernel
theorem hyX7_joint : (yX7_joint.cls ≠ "java/lang/invoke/MethodHandle" ∧ yX7_joint.cls ≠ "java/lang/invoke/VarHandle") ∧ (parseMethodDescriptor yX7_joint.desc).map (fun d => d.parameters.length) = some 2 := by decide +kernel
theorem hyX7_tension : (yX7_tension.cls ≠ "java/lang/invoke/MethodHandle" ∧ yX7_tension.cls ≠ "java/lang/invoke/VarHandle") ∧ (parseMethodDescriptor yX7_tension.desc).map (fun d => d.parameters.length) = some 3 := by decide +kernel
theorem hyX7_goes : (yX7_goes.cls ≠ "java/lang/invoke/MethodHandle" ∧ yX7_goes.cls ≠ "java/lang/invoke/VarHandle") ∧ (parseMethodDescriptor yX7_goes.desc).map (fun d => d.parameters.length) = some 3 := by decide +kernel
theorem hyX7_falls : (yX7_falls.cls ≠ "java/lang/invoke/MethodHandle" ∧ yX7_falls.cls ≠ "java/lang/invoke/VarHandle") ∧ (parseMethodDescriptor yX7_falls.desc).map (fun d => d.parameters.length) = some 2 := by decide +kernel
theorem hyX7_feed : (yX7_feed.cls ≠ "java/lang/invoke/MethodHandle" ∧ yX7_feed.cls ≠ "java/lang/invoke/VarHandle") ∧ (parseMethodDescriptor yX7_feed.desc).map (fun d => d.parameters.length) = some 5 := by decide +kernel
theorem hyX7_end : (yX7_end.cls ≠ "java/lang/invoke/MethodHandle" ∧ yX7_end.cls ≠ "java/lang/invoke/VarHandle") ∧ (parseMethodDescriptor yX7_end.desc).map (fun d => d.parameters.length) = some 1 := by decide +kernel
theorem hyX7_rule : (yX7_rule.cls ≠ "java/lang/invoke/MethodHandle" ∧ yX7_rule.cls ≠ "java/lang/invoke/VarHandle") ∧ (parseMethodDescriptor yX7_rule.desc).map (fun d => d.parameters.length) = some 0 := by decide +kernel
theorem hyX7_fault : (yX7_fault.cls ≠ "java/lang/invoke/MethodHandle" ∧ yX7_fault.cls ≠ "java/lang/invoke/VarHandle") ∧ (parseMethodDescriptor yX7_fault.desc).map (fun d => d.parameters.length) = some 0 := by decide +kernel
theorem hyX7_need : (yX7_need.cls ≠ "java/lang/invoke/MethodHandle" ∧ yX7_need.cls ≠ "java/lang/invoke/VarHandle") ∧ (parseMethodDescriptor yX7_need.desc).map (fun d => d.parameters.length) = some 3 := by decide +kernel
theorem hyX7_step : (yX7_step.cls ≠ "java/lang/invoke/MethodHandle" ∧ yX7_step.cls ≠ "java/lang/invoke/VarHandle") ∧ (parseMethodDescriptor yX7_step.desc).map (fun d => d.parameters.length) = some 5 := by decide +kernel
theorem hyX7_drawing : (yX7_drawing.cls ≠ "java/lang/invoke/MethodHandle" ∧ yX7_drawing.cls ≠ "java/lang/invoke/VarHandle") ∧ (parseMethodDescriptor yX7_drawing.desc).map (fun d => d.parameters.length) = some 2 := by decide +kernel
theorem hyX7_saw : (yX7_saw.cls ≠ "java/lang/invoke/MethodHandle" ∧ yX7_saw.cls ≠ "java/lang/invoke/VarHandle") ∧ (parseMethodDescriptor yX7_saw.desc).map (fun d => d.parameters.length) = some 0 := by decide +kernel
theorem hyX7_odds : (yX7_odds.cls ≠ "java/lang/invoke/MethodHandle" ∧ yX7_odds.cls ≠ "java/lang/invoke/VarHandle") ∧ (parseMethodDescriptor yX7_odds.desc).map (fun d => d.parameters.length) = some 1 := by decide +kernel
theorem hyX7_wish : (yX7_wish.cls ≠ "java/lang/invoke/MethodHandle" ∧ yX7_wish.cls ≠ "java/lang/invoke/VarHandle") ∧ (parseMethodDescriptor yX7_wish.desc).map (fun d => d.parameters.length) = some 1 := by decide +kernel
theorem hyX7_clear : (yX7_clear.cls ≠ "java/lang/invoke/MethodHandle" ∧ yX7_clear.cls ≠ "java/lang/invoke/VarHandle") ∧ (parseMethodDescriptor yX7_clear.desc).map (fun d => d.parameters.length) = some 0 := by decide +kernel
theorem hyX7_best : (yX7_best.cls ≠ "java/lang/invoke/MethodHandle" ∧ yX7_best.cls ≠ "java/lang/invoke/VarHandle") ∧ (parseMethodDescriptor yX7_best.desc).map (fun d => d.parameters.length) = some 0 := by decide +kernel
theorem hyX7_night : (yX7_night.cls ≠ "java/lang/invoke/MethodHandle" ∧ yX7_night.cls ≠ "java/lang/invoke/VarHandle") ∧ (parseMethodDescriptor yX7_night.desc).map (fun d => d.parameters.length) = some 1 := by decide +kernel
theorem hyX7_low : (yX7_low.cls ≠ "java/lang/invoke/MethodHandle" ∧ yX7_low.cls ≠ "java/lang/invoke/VarHandle") ∧ (parseMethodDescriptor yX7_low.desc).map (fun d => d.parameters.length) = some 0 := by decide +kernel
theorem hyX7_enough : (yX7_enough.cls ≠ "java/lang/invoke/MethodHandle" ∧ yX7_enough.cls ≠ "java/lang/invoke/VarHandle") ∧ (parseMethodDescriptor yX7_enough.desc).map (fun d => d.parameters.length) = some 1 := by decide +kernel
theorem hyX7_move : (yX7_move.cls ≠ "java/lang/invoke/MethodHandle" ∧ yX7_move.cls ≠ "java/lang/invoke/VarHandle") ∧ (parseMethodDescriptor yX7_move.desc).map (fun d => d.parameters.length) = some 0 := by decide +kernel
theorem hyX7_find : (yX7_find.cls ≠ "java/lang/invoke/MethodHandle" ∧ yX7_find.cls ≠ "java/lang/invoke/VarHandle") ∧ (parseMethodDescriptor yX7_find.desc).map (fun d => d.parameters.length) = some 3 := by decide +kernel
theorem hyX7_tell : (yX7_tell.cls ≠ "java/lang/invoke/MethodHandle" ∧ yX7_tell.cls ≠ "java/lang/invoke/VarHandle") ∧ (parseMethodDescriptor yX7_tell.desc).map (fun d => d.parameters.length) = some 4 := by decide +kernel
theorem hyX7_knew : (yX7_knew.cls ≠ "java/lang/invoke/MethodHandle" ∧ yX7_knew.cls ≠ "java/lang/invoke/VarHandle") ∧ (parseMethodDescriptor yX7_knew.desc).map (fun d => d.parameters.length) = some 2 := by decide +kernel
theorem hyX7_owed : (yX7_owed.cls ≠ "java/lang/invoke/MethodHandle" ∧ yX7_owed.cls ≠ "java/lang/invoke/VarHandle") ∧ (parseMethodDescriptor yX7_owed.desc).map (fun d => d.parameters.length) = some 3 := by decide +kernel
theorem hyX7_street : (yX7_street.cls ≠ "java/lang/invoke/MethodHandle" ∧ yX7_street.cls ≠ "java/lang/invoke/VarHandle") ∧ (parseMethodDescriptor yX7_street.desc).map (fun d => d.parameters.length) = some 3 := by decide +kernel
theorem hyX7_under : (yX7_under.cls ≠ "java/lang/invoke/MethodHandle" ∧ yX7_under.cls ≠ "java/lang/invoke/VarHandle") ∧ (parseMethodDescriptor yX7_under.desc).map (fun d => d.parameters.length) = some 2 := by decide +kernel
theorem hyX7_row : (yX7_row.cls ≠ "java/lang/invoke/MethodHandle" ∧ yX7_row.cls ≠ "java/lang/invoke/VarHandle") ∧ (parseMethodDescriptor yX7_row.desc).map (fun d => d.parameters.length) = some 0 := by decide +kernel
theorem hyX7_call : (yX7_call.cls ≠ "java/lang/invoke/MethodHandle" ∧ yX7_call.cls ≠ "java/lang/invoke/VarHandle") ∧ (parseMethodDescriptor yX7_call.desc).map (fun d => d.parameters.length) = some 1 := by decide +kernel
theorem hyX7_when : (yX7_when.cls ≠ "java/lang/invoke/MethodHandle" ∧ yX7_when.cls ≠ "java/lang/invoke/VarHandle") ∧ (parseMethodDescriptor yX7_when.desc).map (fun d => d.parameters.length) = some 0 := by decide +kernel
theorem hyX7_tower : (yX7_tower.cls ≠ "java/lang/invoke/MethodHandle" ∧ yX7_tower.cls ≠ "java/lang/invoke/VarHandle") ∧ (parseMethodDescriptor yX7_tower.desc).map (fun d => d.parameters.length) = some 5 := by decide +kernel
theorem hyX7_first : (yX7_first.cls ≠ "java/lang/invoke/MethodHandle" ∧ yX7_first.cls ≠ "java/lang/invoke/VarHandle") ∧ (parseMethodDescriptor yX7_first.desc).map (fun d => d.parameters.length) = some 1 := by decide +kernel
theorem hyX7_image : (yX7_image.cls ≠ "java/lang/invoke/MethodHandle" ∧ yX7_image.cls ≠ "java/lang/invoke/VarHandle") ∧ (parseMethodDescriptor yX7_image.desc).map (fun d => d.parameters.length) = some 1 := by decide +kernel
theorem hyX7_back : (yX7_back.cls ≠ "java/lang/invoke/MethodHandle" ∧ yX7_back.cls ≠ "java/lang/invoke/VarHandle") ∧ (parseMethodDescriptor yX7_back.desc).map (fun d => d.parameters.length) = some 1 := by decide +kernel
theorem hyX7_count : (yX7_count.cls ≠ "java/lang/invoke/MethodHandle" ∧ yX7_count.cls ≠ "java/lang/invoke/VarHandle") ∧ (parseMethodDescriptor yX7_count.desc).map (fun d => d.parameters.length) = some 1 := by decide +kernel
theorem hyX7_status : (yX7_status.cls ≠ "java/lang/invoke/MethodHandle" ∧ yX7_status.cls ≠ "java/lang/invoke/VarHandle") ∧ (parseMethodDescriptor yX7_status.desc).map (fun d => d.parameters.length) = some 0 := by decide +kernel
theorem hyX7_refuse : (yX7_refuse.cls ≠ "java/lang/invoke/MethodHandle" ∧ yX7_refuse.cls ≠ "java/lang/invoke/VarHandle") ∧ (parseMethodDescriptor yX7_refuse.desc).map (fun d => d.parameters.length) = some 1 := by decide +kernel
theorem hyX7_accept : (yX7_accept.cls ≠ "java/lang/invoke/MethodHandle" ∧ yX7_accept.cls ≠ "java/lang/invoke/VarHandle") ∧ (parseMethodDescriptor yX7_accept.desc).map (fun d => d.parameters.length) = some 1 := by decide +kernel
theorem hyX7_isWithin : (yX7_isWithin.cls ≠ "java/lang/invoke/MethodHandle" ∧ yX7_isWithin.cls ≠ "java/lang/invoke/VarHandle") ∧ (parseMethodDescriptor yX7_isWithin.desc).map (fun d => d.parameters.length) = some 3 := by decide +kernel
theorem hyX7_isJoint : (yX7_isJoint.cls ≠ "java/lang/invoke/MethodHandle" ∧ yX7_isJoint.cls ≠ "java/lang/invoke/VarHandle") ∧ (parseMethodDescriptor yX7_isJoint.desc).map (fun d => d.parameters.length) = some 1 := by decide +kernel
theorem hyX7_isWay : (yX7_isWay.cls ≠ "java/lang/invoke/MethodHandle" ∧ yX7_isWay.cls ≠ "java/lang/invoke/VarHandle") ∧ (parseMethodDescriptor yX7_isWay.desc).map (fun d => d.parameters.length) = some 1 := by decide +kernel
theorem hyX7_isDay : (yX7_isDay.cls ≠ "java/lang/invoke/MethodHandle" ∧ yX7_isDay.cls ≠ "java/lang/invoke/VarHandle") ∧ (parseMethodDescriptor yX7_isDay.desc).map (fun d => d.parameters.length) = some 1 := by decide +kernel
theorem hyX7_isPerson : (yX7_isPerson.cls ≠ "java/lang/invoke/MethodHandle" ∧ yX7_isPerson.cls ≠ "java/lang/invoke/VarHandle") ∧ (parseMethodDescriptor yX7_isPerson.desc).map (fun d => d.parameters.length) = some 1 := by decide +kernel
theorem hyX7_isFact : (yX7_isFact.cls ≠ "java/lang/invoke/MethodHandle" ∧ yX7_isFact.cls ≠ "java/lang/invoke/VarHandle") ∧ (parseMethodDescriptor yX7_isFact.desc).map (fun d => d.parameters.length) = some 1 := by decide +kernel
theorem hyX7_isBlowing : (yX7_isBlowing.cls ≠ "java/lang/invoke/MethodHandle" ∧ yX7_isBlowing.cls ≠ "java/lang/invoke/VarHandle") ∧ (parseMethodDescriptor yX7_isBlowing.desc).map (fun d => d.parameters.length) = some 2 := by decide +kernel
theorem hyX7_textAt : (yX7_textAt.cls ≠ "java/lang/invoke/MethodHandle" ∧ yX7_textAt.cls ≠ "java/lang/invoke/VarHandle") ∧ (parseMethodDescriptor yX7_textAt.desc).map (fun d => d.parameters.length) = some 1 := by decide +kernel
theorem hyX7_writeBytes : (yX7_writeBytes.cls ≠ "java/lang/invoke/MethodHandle" ∧ yX7_writeBytes.cls ≠ "java/lang/invoke/VarHandle") ∧ (parseMethodDescriptor yX7_writeBytes.desc).map (fun d => d.parameters.length) = some 1 := by decide +kernel
theorem hyX7_takeTape : (yX7_takeTape.cls ≠ "java/lang/invoke/MethodHandle" ∧ yX7_takeTape.cls ≠ "java/lang/invoke/VarHandle") ∧ (parseMethodDescriptor yX7_takeTape.desc).map (fun d => d.parameters.length) = some 0 := by decide +kernel
theorem hyX7_needBy : (yX7_needBy.cls ≠ "java/lang/invoke/MethodHandle" ∧ yX7_needBy.cls ≠ "java/lang/invoke/VarHandle") ∧ (parseMethodDescriptor yX7_needBy.desc).map (fun d => d.parameters.length) = some 3 := by decide +kernel
theorem hyX8_in : (yX8_in.cls ≠ "java/lang/invoke/MethodHandle" ∧ yX8_in.cls ≠ "java/lang/invoke/VarHandle") ∧ (parseMethodDescriptor yX8_in.desc).map (fun d => d.parameters.length) = some 3 := by decide +kernel
theorem hyX8_refuses : (yX8_refuses.cls ≠ "java/lang/invoke/MethodHandle" ∧ yX8_refuses.cls ≠ "java/lang/invoke/VarHandle") ∧ (parseMethodDescriptor yX8_refuses.desc).map (fun d => d.parameters.length) = some 1 := by decide +kernel
theorem hyX8_good : (yX8_good.cls ≠ "java/lang/invoke/MethodHandle" ∧ yX8_good.cls ≠ "java/lang/invoke/VarHandle") ∧ (parseMethodDescriptor yX8_good.desc).map (fun d => d.parameters.length) = some 1 := by decide +kernel
theorem hyX8_init : (yX8_init.cls ≠ "java/lang/invoke/MethodHandle" ∧ yX8_init.cls ≠ "java/lang/invoke/VarHandle") ∧ (parseMethodDescriptor yX8_init.desc).map (fun d => d.parameters.length) = some 0 := by decide +kernel
theorem hyX8_image : (yX8_image.cls ≠ "java/lang/invoke/MethodHandle" ∧ yX8_image.cls ≠ "java/lang/invoke/VarHandle") ∧ (parseMethodDescriptor yX8_image.desc).map (fun d => d.parameters.length) = some 1 := by decide +kernel
theorem hyX8_back : (yX8_back.cls ≠ "java/lang/invoke/MethodHandle" ∧ yX8_back.cls ≠ "java/lang/invoke/VarHandle") ∧ (parseMethodDescriptor yX8_back.desc).map (fun d => d.parameters.length) = some 1 := by decide +kernel
theorem hyX8_isJoint : (yX8_isJoint.cls ≠ "java/lang/invoke/MethodHandle" ∧ yX8_isJoint.cls ≠ "java/lang/invoke/VarHandle") ∧ (parseMethodDescriptor yX8_isJoint.desc).map (fun d => d.parameters.length) = some 1 := by decide +kernel
theorem hyX8_isWind : (yX8_isWind.cls ≠ "java/lang/invoke/MethodHandle" ∧ yX8_isWind.cls ≠ "java/lang/invoke/VarHandle") ∧ (parseMethodDescriptor yX8_isWind.desc).map (fun d => d.parameters.length) = some 1 := by decide +kernel
theorem hyX8_isText : (yX8_isText.cls ≠ "java/lang/invoke/MethodHandle" ∧ yX8_isText.cls ≠ "java/lang/invoke/VarHandle") ∧ (parseMethodDescriptor yX8_isText.desc).map (fun d => d.parameters.length) = some 1 := by decide +kernel
theorem hyX8_term : (yX8_term.cls ≠ "java/lang/invoke/MethodHandle" ∧ yX8_term.cls ≠ "java/lang/invoke/VarHandle") ∧ (parseMethodDescriptor yX8_term.desc).map (fun d => d.parameters.length) = some 1 := by decide +kernel
theorem hyX8_windOf : (yX8_windOf.cls ≠ "java/lang/invoke/MethodHandle" ∧ yX8_windOf.cls ≠ "java/lang/invoke/VarHandle") ∧ (parseMethodDescriptor yX8_windOf.desc).map (fun d => d.parameters.length) = some 2 := by decide +kernel
theorem hyX8_stiff : (yX8_stiff.cls ≠ "java/lang/invoke/MethodHandle" ∧ yX8_stiff.cls ≠ "java/lang/invoke/VarHandle") ∧ (parseMethodDescriptor yX8_stiff.desc).map (fun d => d.parameters.length) = some 2 := by decide +kernel
theorem hyX8_tier : (yX8_tier.cls ≠ "java/lang/invoke/MethodHandle" ∧ yX8_tier.cls ≠ "java/lang/invoke/VarHandle") ∧ (parseMethodDescriptor yX8_tier.desc).map (fun d => d.parameters.length) = some 3 := by decide +kernel
theorem hyX8_terms : (yX8_terms.cls ≠ "java/lang/invoke/MethodHandle" ∧ yX8_terms.cls ≠ "java/lang/invoke/VarHandle") ∧ (parseMethodDescriptor yX8_terms.desc).map (fun d => d.parameters.length) = some 2 := by decide +kernel
theorem hyX8_wind : (yX8_wind.cls ≠ "java/lang/invoke/MethodHandle" ∧ yX8_wind.cls ≠ "java/lang/invoke/VarHandle") ∧ (parseMethodDescriptor yX8_wind.desc).map (fun d => d.parameters.length) = some 3 := by decide +kernel
theorem hyX8_plate : (yX8_plate.cls ≠ "java/lang/invoke/MethodHandle" ∧ yX8_plate.cls ≠ "java/lang/invoke/VarHandle") ∧ (parseMethodDescriptor yX8_plate.desc).map (fun d => d.parameters.length) = some 2 := by decide +kernel
theorem hyX8_holdsOf : (yX8_holdsOf.cls ≠ "java/lang/invoke/MethodHandle" ∧ yX8_holdsOf.cls ≠ "java/lang/invoke/VarHandle") ∧ (parseMethodDescriptor yX8_holdsOf.desc).map (fun d => d.parameters.length) = some 1 := by decide +kernel
theorem hyX8_joint : (yX8_joint.cls ≠ "java/lang/invoke/MethodHandle" ∧ yX8_joint.cls ≠ "java/lang/invoke/VarHandle") ∧ (parseMethodDescriptor yX8_joint.desc).map (fun d => d.parameters.length) = some 2 := by decide +kernel
theorem hyX8_eastOf : (yX8_eastOf.cls ≠ "java/lang/invoke/MethodHandle" ∧ yX8_eastOf.cls ≠ "java/lang/invoke/VarHandle") ∧ (parseMethodDescriptor yX8_eastOf.desc).map (fun d => d.parameters.length) = some 1 := by decide +kernel
theorem hyX8_northOf : (yX8_northOf.cls ≠ "java/lang/invoke/MethodHandle" ∧ yX8_northOf.cls ≠ "java/lang/invoke/VarHandle") ∧ (parseMethodDescriptor yX8_northOf.desc).map (fun d => d.parameters.length) = some 1 := by decide +kernel
theorem hyX8_lays : (yX8_lays.cls ≠ "java/lang/invoke/MethodHandle" ∧ yX8_lays.cls ≠ "java/lang/invoke/VarHandle") ∧ (parseMethodDescriptor yX8_lays.desc).map (fun d => d.parameters.length) = some 3 := by decide +kernel
theorem hyX8_pulls : (yX8_pulls.cls ≠ "java/lang/invoke/MethodHandle" ∧ yX8_pulls.cls ≠ "java/lang/invoke/VarHandle") ∧ (parseMethodDescriptor yX8_pulls.desc).map (fun d => d.parameters.length) = some 2 := by decide +kernel
theorem hyX8_thousand : (yX8_thousand.cls ≠ "java/lang/invoke/MethodHandle" ∧ yX8_thousand.cls ≠ "java/lang/invoke/VarHandle") ∧ (parseMethodDescriptor yX8_thousand.desc).map (fun d => d.parameters.length) = some 2 := by decide +kernel
theorem hyX8_noneGone : (yX8_noneGone.cls ≠ "java/lang/invoke/MethodHandle" ∧ yX8_noneGone.cls ≠ "java/lang/invoke/VarHandle") ∧ (parseMethodDescriptor yX8_noneGone.desc).map (fun d => d.parameters.length) = some 0 := by decide +kernel
theorem hyX8_tension : (yX8_tension.cls ≠ "java/lang/invoke/MethodHandle" ∧ yX8_tension.cls ≠ "java/lang/invoke/VarHandle") ∧ (parseMethodDescriptor yX8_tension.desc).map (fun d => d.parameters.length) = some 3 := by decide +kernel
theorem hyX8_blows : (yX8_blows.cls ≠ "java/lang/invoke/MethodHandle" ∧ yX8_blows.cls ≠ "java/lang/invoke/VarHandle") ∧ (parseMethodDescriptor yX8_blows.desc).map (fun d => d.parameters.length) = some 2 := by decide +kernel
theorem hyX8_goes : (yX8_goes.cls ≠ "java/lang/invoke/MethodHandle" ∧ yX8_goes.cls ≠ "java/lang/invoke/VarHandle") ∧ (parseMethodDescriptor yX8_goes.desc).map (fun d => d.parameters.length) = some 3 := by decide +kernel
theorem hyX8_falls : (yX8_falls.cls ≠ "java/lang/invoke/MethodHandle" ∧ yX8_falls.cls ≠ "java/lang/invoke/VarHandle") ∧ (parseMethodDescriptor yX8_falls.desc).map (fun d => d.parameters.length) = some 2 := by decide +kernel
theorem hyX8_feed : (yX8_feed.cls ≠ "java/lang/invoke/MethodHandle" ∧ yX8_feed.cls ≠ "java/lang/invoke/VarHandle") ∧ (parseMethodDescriptor yX8_feed.desc).map (fun d => d.parameters.length) = some 5 := by decide +kernel
theorem hyX8_end : (yX8_end.cls ≠ "java/lang/invoke/MethodHandle" ∧ yX8_end.cls ≠ "java/lang/invoke/VarHandle") ∧ (parseMethodDescriptor yX8_end.desc).map (fun d => d.parameters.length) = some 1 := by decide +kernel
theorem hyX8_isSmall : (yX8_isSmall.cls ≠ "java/lang/invoke/MethodHandle" ∧ yX8_isSmall.cls ≠ "java/lang/invoke/VarHandle") ∧ (parseMethodDescriptor yX8_isSmall.desc).map (fun d => d.parameters.length) = some 1 := by decide +kernel
theorem hyX8_isDigit : (yX8_isDigit.cls ≠ "java/lang/invoke/MethodHandle" ∧ yX8_isDigit.cls ≠ "java/lang/invoke/VarHandle") ∧ (parseMethodDescriptor yX8_isDigit.desc).map (fun d => d.parameters.length) = some 1 := by decide +kernel
theorem hyX8_wordOf : (yX8_wordOf.cls ≠ "java/lang/invoke/MethodHandle" ∧ yX8_wordOf.cls ≠ "java/lang/invoke/VarHandle") ∧ (parseMethodDescriptor yX8_wordOf.desc).map (fun d => d.parameters.length) = some 2 := by decide +kernel
theorem hyX8_cuts : (yX8_cuts.cls ≠ "java/lang/invoke/MethodHandle" ∧ yX8_cuts.cls ≠ "java/lang/invoke/VarHandle") ∧ (parseMethodDescriptor yX8_cuts.desc).map (fun d => d.parameters.length) = some 1 := by decide +kernel
theorem hyX8_fine : (yX8_fine.cls ≠ "java/lang/invoke/MethodHandle" ∧ yX8_fine.cls ≠ "java/lang/invoke/VarHandle") ∧ (parseMethodDescriptor yX8_fine.desc).map (fun d => d.parameters.length) = some 0 := by decide +kernel
theorem hyX8_faults : (yX8_faults.cls ≠ "java/lang/invoke/MethodHandle" ∧ yX8_faults.cls ≠ "java/lang/invoke/VarHandle") ∧ (parseMethodDescriptor yX8_faults.desc).map (fun d => d.parameters.length) = some 0 := by decide +kernel
theorem hyX8_takes : (yX8_takes.cls ≠ "java/lang/invoke/MethodHandle" ∧ yX8_takes.cls ≠ "java/lang/invoke/VarHandle") ∧ (parseMethodDescriptor yX8_takes.desc).map (fun d => d.parameters.length) = some 1 := by decide +kernel
theorem hyX8_must : (yX8_must.cls ≠ "java/lang/invoke/MethodHandle" ∧ yX8_must.cls ≠ "java/lang/invoke/VarHandle") ∧ (parseMethodDescriptor yX8_must.desc).map (fun d => d.parameters.length) = some 1 := by decide +kernel
theorem hyX8_leaf : (yX8_leaf.cls ≠ "java/lang/invoke/MethodHandle" ∧ yX8_leaf.cls ≠ "java/lang/invoke/VarHandle") ∧ (parseMethodDescriptor yX8_leaf.desc).map (fun d => d.parameters.length) = some 0 := by decide +kernel
theorem hyX8_sign : (yX8_sign.cls ≠ "java/lang/invoke/MethodHandle" ∧ yX8_sign.cls ≠ "java/lang/invoke/VarHandle") ∧ (parseMethodDescriptor yX8_sign.desc).map (fun d => d.parameters.length) = some 1 := by decide +kernel
theorem hyX8_readClause : (yX8_readClause.cls ≠ "java/lang/invoke/MethodHandle" ∧ yX8_readClause.cls ≠ "java/lang/invoke/VarHandle") ∧ (parseMethodDescriptor yX8_readClause.desc).map (fun d => d.parameters.length) = some 0 := by decide +kernel
theorem hyX8_readTest : (yX8_readTest.cls ≠ "java/lang/invoke/MethodHandle" ∧ yX8_readTest.cls ≠ "java/lang/invoke/VarHandle") ∧ (parseMethodDescriptor yX8_readTest.desc).map (fun d => d.parameters.length) = some 1 := by decide +kernel
theorem hyX8_readBoth : (yX8_readBoth.cls ≠ "java/lang/invoke/MethodHandle" ∧ yX8_readBoth.cls ≠ "java/lang/invoke/VarHandle") ∧ (parseMethodDescriptor yX8_readBoth.desc).map (fun d => d.parameters.length) = some 1 := by decide +kernel
theorem hyX8_readPlain : (yX8_readPlain.cls ≠ "java/lang/invoke/MethodHandle" ∧ yX8_readPlain.cls ≠ "java/lang/invoke/VarHandle") ∧ (parseMethodDescriptor yX8_readPlain.desc).map (fun d => d.parameters.length) = some 1 := by decide +kernel
theorem hyX8_readSum : (yX8_readSum.cls ≠ "java/lang/invoke/MethodHandle" ∧ yX8_readSum.cls ≠ "java/lang/invoke/VarHandle") ∧ (parseMethodDescriptor yX8_readSum.desc).map (fun d => d.parameters.length) = some 1 := by decide +kernel
theorem hyX8_readTerm : (yX8_readTerm.cls ≠ "java/lang/invoke/MethodHandle" ∧ yX8_readTerm.cls ≠ "java/lang/invoke/VarHandle") ∧ (parseMethodDescriptor yX8_readTerm.desc).map (fun d => d.parameters.length) = some 1 := by decide +kernel
theorem hyX8_readPart : (yX8_readPart.cls ≠ "java/lang/invoke/MethodHandle" ∧ yX8_readPart.cls ≠ "java/lang/invoke/VarHandle") ∧ (parseMethodDescriptor yX8_readPart.desc).map (fun d => d.parameters.length) = some 1 := by decide +kernel
theorem hyX8_reads : (yX8_reads.cls ≠ "java/lang/invoke/MethodHandle" ∧ yX8_reads.cls ≠ "java/lang/invoke/VarHandle") ∧ (parseMethodDescriptor yX8_reads.desc).map (fun d => d.parameters.length) = some 0 := by decide +kernel
theorem hyX8_rule : (yX8_rule.cls ≠ "java/lang/invoke/MethodHandle" ∧ yX8_rule.cls ≠ "java/lang/invoke/VarHandle") ∧ (parseMethodDescriptor yX8_rule.desc).map (fun d => d.parameters.length) = some 0 := by decide +kernel
theorem hyX8_fault : (yX8_fault.cls ≠ "java/lang/invoke/MethodHandle" ∧ yX8_fault.cls ≠ "java/lang/invoke/VarHandle") ∧ (parseMethodDescriptor yX8_fault.desc).map (fun d => d.parameters.length) = some 0 := by decide +kernel
theorem hyX8_codeAt : (yX8_codeAt.cls ≠ "java/lang/invoke/MethodHandle" ∧ yX8_codeAt.cls ≠ "java/lang/invoke/VarHandle") ∧ (parseMethodDescriptor yX8_codeAt.desc).map (fun d => d.parameters.length) = some 1 := by decide +kernel
theorem hyX8_passes : (yX8_passes.cls ≠ "java/lang/invoke/MethodHandle" ∧ yX8_passes.cls ≠ "java/lang/invoke/VarHandle") ∧ (parseMethodDescriptor yX8_passes.desc).map (fun d => d.parameters.length) = some 1 := by decide +kernel
theorem hyX8_bounded : (yX8_bounded.cls ≠ "java/lang/invoke/MethodHandle" ∧ yX8_bounded.cls ≠ "java/lang/invoke/VarHandle") ∧ (parseMethodDescriptor yX8_bounded.desc).map (fun d => d.parameters.length) = some 2 := by decide +kernel
theorem hyX8_sumOf : (yX8_sumOf.cls ≠ "java/lang/invoke/MethodHandle" ∧ yX8_sumOf.cls ≠ "java/lang/invoke/VarHandle") ∧ (parseMethodDescriptor yX8_sumOf.desc).map (fun d => d.parameters.length) = some 1 := by decide +kernel
theorem hyX8_termOf : (yX8_termOf.cls ≠ "java/lang/invoke/MethodHandle" ∧ yX8_termOf.cls ≠ "java/lang/invoke/VarHandle") ∧ (parseMethodDescriptor yX8_termOf.desc).map (fun d => d.parameters.length) = some 1 := by decide +kernel
theorem hyX8_partOf : (yX8_partOf.cls ≠ "java/lang/invoke/MethodHandle" ∧ yX8_partOf.cls ≠ "java/lang/invoke/VarHandle") ∧ (parseMethodDescriptor yX8_partOf.desc).map (fun d => d.parameters.length) = some 1 := by decide +kernel
theorem hyX8_testOf : (yX8_testOf.cls ≠ "java/lang/invoke/MethodHandle" ∧ yX8_testOf.cls ≠ "java/lang/invoke/VarHandle") ∧ (parseMethodDescriptor yX8_testOf.desc).map (fun d => d.parameters.length) = some 1 := by decide +kernel
theorem hyX8_bothOf : (yX8_bothOf.cls ≠ "java/lang/invoke/MethodHandle" ∧ yX8_bothOf.cls ≠ "java/lang/invoke/VarHandle") ∧ (parseMethodDescriptor yX8_bothOf.desc).map (fun d => d.parameters.length) = some 1 := by decide +kernel
theorem hyX8_plainOf : (yX8_plainOf.cls ≠ "java/lang/invoke/MethodHandle" ∧ yX8_plainOf.cls ≠ "java/lang/invoke/VarHandle") ∧ (parseMethodDescriptor yX8_plainOf.desc).map (fun d => d.parameters.length) = some 1 := by decide +kernel
theorem hyX8_positiveOf : (yX8_positiveOf.cls ≠ "java/lang/invoke/MethodHandle" ∧ yX8_positiveOf.cls ≠ "java/lang/invoke/VarHandle") ∧ (parseMethodDescriptor yX8_positiveOf.desc).map (fun d => d.parameters.length) = some 1 := by decide +kernel
theorem hyX8_asks : (yX8_asks.cls ≠ "java/lang/invoke/MethodHandle" ∧ yX8_asks.cls ≠ "java/lang/invoke/VarHandle") ∧ (parseMethodDescriptor yX8_asks.desc).map (fun d => d.parameters.length) = some 1 := by decide +kernel
theorem hyX8_asksJoint : (yX8_asksJoint.cls ≠ "java/lang/invoke/MethodHandle" ∧ yX8_asksJoint.cls ≠ "java/lang/invoke/VarHandle") ∧ (parseMethodDescriptor yX8_asksJoint.desc).map (fun d => d.parameters.length) = some 3 := by decide +kernel
theorem hyX8_needOf : (yX8_needOf.cls ≠ "java/lang/invoke/MethodHandle" ∧ yX8_needOf.cls ≠ "java/lang/invoke/VarHandle") ∧ (parseMethodDescriptor yX8_needOf.desc).map (fun d => d.parameters.length) = some 3 := by decide +kernel
theorem hyX8_isDay : (yX8_isDay.cls ≠ "java/lang/invoke/MethodHandle" ∧ yX8_isDay.cls ≠ "java/lang/invoke/VarHandle") ∧ (parseMethodDescriptor yX8_isDay.desc).map (fun d => d.parameters.length) = some 1 := by decide +kernel
theorem hyX8_need : (yX8_need.cls ≠ "java/lang/invoke/MethodHandle" ∧ yX8_need.cls ≠ "java/lang/invoke/VarHandle") ∧ (parseMethodDescriptor yX8_need.desc).map (fun d => d.parameters.length) = some 3 := by decide +kernel
theorem hyX8_becomes : (yX8_becomes.cls ≠ "java/lang/invoke/MethodHandle" ∧ yX8_becomes.cls ≠ "java/lang/invoke/VarHandle") ∧ (parseMethodDescriptor yX8_becomes.desc).map (fun d => d.parameters.length) = some 2 := by decide +kernel
theorem hyX8_stepOf : (yX8_stepOf.cls ≠ "java/lang/invoke/MethodHandle" ∧ yX8_stepOf.cls ≠ "java/lang/invoke/VarHandle") ∧ (parseMethodDescriptor yX8_stepOf.desc).map (fun d => d.parameters.length) = some 2 := by decide +kernel
theorem hyX8_step : (yX8_step.cls ≠ "java/lang/invoke/MethodHandle" ∧ yX8_step.cls ≠ "java/lang/invoke/VarHandle") ∧ (parseMethodDescriptor yX8_step.desc).map (fun d => d.parameters.length) = some 5 := by decide +kernel
theorem hyX8_drawing : (yX8_drawing.cls ≠ "java/lang/invoke/MethodHandle" ∧ yX8_drawing.cls ≠ "java/lang/invoke/VarHandle") ∧ (parseMethodDescriptor yX8_drawing.desc).map (fun d => d.parameters.length) = some 2 := by decide +kernel
theorem hyX8_saves : (yX8_saves.cls ≠ "java/lang/invoke/MethodHandle" ∧ yX8_saves.cls ≠ "java/lang/invoke/VarHandle") ∧ (parseMethodDescriptor yX8_saves.desc).map (fun d => d.parameters.length) = some 0 := by decide +kernel
theorem hyX8_restores : (yX8_restores.cls ≠ "java/lang/invoke/MethodHandle" ∧ yX8_restores.cls ≠ "java/lang/invoke/VarHandle") ∧ (parseMethodDescriptor yX8_restores.desc).map (fun d => d.parameters.length) = some 0 := by decide +kernel
theorem hyX8_fallsBy : (yX8_fallsBy.cls ≠ "java/lang/invoke/MethodHandle" ∧ yX8_fallsBy.cls ≠ "java/lang/invoke/VarHandle") ∧ (parseMethodDescriptor yX8_fallsBy.desc).map (fun d => d.parameters.length) = some 1 := by decide +kernel
theorem hyX8_saw : (yX8_saw.cls ≠ "java/lang/invoke/MethodHandle" ∧ yX8_saw.cls ≠ "java/lang/invoke/VarHandle") ∧ (parseMethodDescriptor yX8_saw.desc).map (fun d => d.parameters.length) = some 0 := by decide +kernel
theorem hyX8_oddsOf : (yX8_oddsOf.cls ≠ "java/lang/invoke/MethodHandle" ∧ yX8_oddsOf.cls ≠ "java/lang/invoke/VarHandle") ∧ (parseMethodDescriptor yX8_oddsOf.desc).map (fun d => d.parameters.length) = some 1 := by decide +kernel
theorem hyX8_yearBy : (yX8_yearBy.cls ≠ "java/lang/invoke/MethodHandle" ∧ yX8_yearBy.cls ≠ "java/lang/invoke/VarHandle") ∧ (parseMethodDescriptor yX8_yearBy.desc).map (fun d => d.parameters.length) = some 3 := by decide +kernel
theorem hyX8_year : (yX8_year.cls ≠ "java/lang/invoke/MethodHandle" ∧ yX8_year.cls ≠ "java/lang/invoke/VarHandle") ∧ (parseMethodDescriptor yX8_year.desc).map (fun d => d.parameters.length) = some 0 := by decide +kernel
theorem hyX8_odds : (yX8_odds.cls ≠ "java/lang/invoke/MethodHandle" ∧ yX8_odds.cls ≠ "java/lang/invoke/VarHandle") ∧ (parseMethodDescriptor yX8_odds.desc).map (fun d => d.parameters.length) = some 1 := by decide +kernel
theorem hyX8_wish : (yX8_wish.cls ≠ "java/lang/invoke/MethodHandle" ∧ yX8_wish.cls ≠ "java/lang/invoke/VarHandle") ∧ (parseMethodDescriptor yX8_wish.desc).map (fun d => d.parameters.length) = some 1 := by decide +kernel
theorem hyX8_clear : (yX8_clear.cls ≠ "java/lang/invoke/MethodHandle" ∧ yX8_clear.cls ≠ "java/lang/invoke/VarHandle") ∧ (parseMethodDescriptor yX8_clear.desc).map (fun d => d.parameters.length) = some 0 := by decide +kernel
theorem hyX8_canMend : (yX8_canMend.cls ≠ "java/lang/invoke/MethodHandle" ∧ yX8_canMend.cls ≠ "java/lang/invoke/VarHandle") ∧ (parseMethodDescriptor yX8_canMend.desc).map (fun d => d.parameters.length) = some 0 := by decide +kernel
theorem hyX8_prices : (yX8_prices.cls ≠ "java/lang/invoke/MethodHandle" ∧ yX8_prices.cls ≠ "java/lang/invoke/VarHandle") ∧ (parseMethodDescriptor yX8_prices.desc).map (fun d => d.parameters.length) = some 0 := by decide +kernel
theorem hyX8_best : (yX8_best.cls ≠ "java/lang/invoke/MethodHandle" ∧ yX8_best.cls ≠ "java/lang/invoke/VarHandle") ∧ (parseMethodDescriptor yX8_best.desc).map (fun d => d.parameters.length) = some 0 := by decide +kernel
theorem hyX8_night : (yX8_night.cls ≠ "java/lang/invoke/MethodHandle" ∧ yX8_night.cls ≠ "java/lang/invoke/VarHandle") ∧ (parseMethodDescriptor yX8_night.desc).map (fun d => d.parameters.length) = some 1 := by decide +kernel
theorem hyX8_ones : (yX8_ones.cls ≠ "java/lang/invoke/MethodHandle" ∧ yX8_ones.cls ≠ "java/lang/invoke/VarHandle") ∧ (parseMethodDescriptor yX8_ones.desc).map (fun d => d.parameters.length) = some 1 := by decide +kernel
theorem hyX8_low : (yX8_low.cls ≠ "java/lang/invoke/MethodHandle" ∧ yX8_low.cls ≠ "java/lang/invoke/VarHandle") ∧ (parseMethodDescriptor yX8_low.desc).map (fun d => d.parameters.length) = some 0 := by decide +kernel
theorem hyX8_isEnough : (yX8_isEnough.cls ≠ "java/lang/invoke/MethodHandle" ∧ yX8_isEnough.cls ≠ "java/lang/invoke/VarHandle") ∧ (parseMethodDescriptor yX8_isEnough.desc).map (fun d => d.parameters.length) = some 1 := by decide +kernel
theorem hyX8_enough : (yX8_enough.cls ≠ "java/lang/invoke/MethodHandle" ∧ yX8_enough.cls ≠ "java/lang/invoke/VarHandle") ∧ (parseMethodDescriptor yX8_enough.desc).map (fun d => d.parameters.length) = some 1 := by decide +kernel
theorem hyX8_move : (yX8_move.cls ≠ "java/lang/invoke/MethodHandle" ∧ yX8_move.cls ≠ "java/lang/invoke/VarHandle") ∧ (parseMethodDescriptor yX8_move.desc).map (fun d => d.parameters.length) = some 0 := by decide +kernel
theorem hyX8_isEight : (yX8_isEight.cls ≠ "java/lang/invoke/MethodHandle" ∧ yX8_isEight.cls ≠ "java/lang/invoke/VarHandle") ∧ (parseMethodDescriptor yX8_isEight.desc).map (fun d => d.parameters.length) = some 1 := by decide +kernel
theorem hyX8_knows : (yX8_knows.cls ≠ "java/lang/invoke/MethodHandle" ∧ yX8_knows.cls ≠ "java/lang/invoke/VarHandle") ∧ (parseMethodDescriptor yX8_knows.desc).map (fun d => d.parameters.length) = some 3 := by decide +kernel
theorem hyX8_knewBy : (yX8_knewBy.cls ≠ "java/lang/invoke/MethodHandle" ∧ yX8_knewBy.cls ≠ "java/lang/invoke/VarHandle") ∧ (parseMethodDescriptor yX8_knewBy.desc).map (fun d => d.parameters.length) = some 3 := by decide +kernel
theorem hyX8_find : (yX8_find.cls ≠ "java/lang/invoke/MethodHandle" ∧ yX8_find.cls ≠ "java/lang/invoke/VarHandle") ∧ (parseMethodDescriptor yX8_find.desc).map (fun d => d.parameters.length) = some 3 := by decide +kernel
theorem hyX8_tell : (yX8_tell.cls ≠ "java/lang/invoke/MethodHandle" ∧ yX8_tell.cls ≠ "java/lang/invoke/VarHandle") ∧ (parseMethodDescriptor yX8_tell.desc).map (fun d => d.parameters.length) = some 4 := by decide +kernel
theorem hyX8_knew : (yX8_knew.cls ≠ "java/lang/invoke/MethodHandle" ∧ yX8_knew.cls ≠ "java/lang/invoke/VarHandle") ∧ (parseMethodDescriptor yX8_knew.desc).map (fun d => d.parameters.length) = some 2 := by decide +kernel
theorem hyX8_owed : (yX8_owed.cls ≠ "java/lang/invoke/MethodHandle" ∧ yX8_owed.cls ≠ "java/lang/invoke/VarHandle") ∧ (parseMethodDescriptor yX8_owed.desc).map (fun d => d.parameters.length) = some 3 := by decide +kernel
theorem hyX8_street : (yX8_street.cls ≠ "java/lang/invoke/MethodHandle" ∧ yX8_street.cls ≠ "java/lang/invoke/VarHandle") ∧ (parseMethodDescriptor yX8_street.desc).map (fun d => d.parameters.length) = some 3 := by decide +kernel
theorem hyX8_under : (yX8_under.cls ≠ "java/lang/invoke/MethodHandle" ∧ yX8_under.cls ≠ "java/lang/invoke/VarHandle") ∧ (parseMethodDescriptor yX8_under.desc).map (fun d => d.parameters.length) = some 2 := by decide +kernel
theorem hyX8_row : (yX8_row.cls ≠ "java/lang/invoke/MethodHandle" ∧ yX8_row.cls ≠ "java/lang/invoke/VarHandle") ∧ (parseMethodDescriptor yX8_row.desc).map (fun d => d.parameters.length) = some 0 := by decide +kernel
theorem hyX8_callOf : (yX8_callOf.cls ≠ "java/lang/invoke/MethodHandle" ∧ yX8_callOf.cls ≠ "java/lang/invoke/VarHandle") ∧ (parseMethodDescriptor yX8_callOf.desc).map (fun d => d.parameters.length) = some 1 := by decide +kernel
theorem hyX8_call : (yX8_call.cls ≠ "java/lang/invoke/MethodHandle" ∧ yX8_call.cls ≠ "java/lang/invoke/VarHandle") ∧ (parseMethodDescriptor yX8_call.desc).map (fun d => d.parameters.length) = some 1 := by decide +kernel
theorem hyX8_when : (yX8_when.cls ≠ "java/lang/invoke/MethodHandle" ∧ yX8_when.cls ≠ "java/lang/invoke/VarHandle") ∧ (parseMethodDescriptor yX8_when.desc).map (fun d => d.parameters.length) = some 0 := by decide +kernel
theorem hyX8_tower : (yX8_tower.cls ≠ "java/lang/invoke/MethodHandle" ∧ yX8_tower.cls ≠ "java/lang/invoke/VarHandle") ∧ (parseMethodDescriptor yX8_tower.desc).map (fun d => d.parameters.length) = some 5 := by decide +kernel
theorem hyX8_first : (yX8_first.cls ≠ "java/lang/invoke/MethodHandle" ∧ yX8_first.cls ≠ "java/lang/invoke/VarHandle") ∧ (parseMethodDescriptor yX8_first.desc).map (fun d => d.parameters.length) = some 1 := by decide +kernel
theorem hyX8_count : (yX8_count.cls ≠ "java/lang/invoke/MethodHandle" ∧ yX8_count.cls ≠ "java/lang/invoke/VarHandle") ∧ (parseMethodDescriptor yX8_count.desc).map (fun d => d.parameters.length) = some 1 := by decide +kernel
theorem hyX8_status : (yX8_status.cls ≠ "java/lang/invoke/MethodHandle" ∧ yX8_status.cls ≠ "java/lang/invoke/VarHandle") ∧ (parseMethodDescriptor yX8_status.desc).map (fun d => d.parameters.length) = some 0 := by decide +kernel
theorem hyJ6_bitCount_0f7a4 : (yJ6_bitCount_0f7a4.cls ≠ "java/lang/invoke/MethodHandle" ∧ yJ6_bitCount_0f7a4.cls ≠ "java/lang/invoke/VarHandle") ∧ (parseMethodDescriptor yJ6_bitCount_0f7a4.desc).map (fun d => d.parameters.length) = some 1 := by decide +kernel
theorem hyJ9_max_7cf53 : (yJ9_max_7cf53.cls ≠ "java/lang/invoke/MethodHandle" ∧ yJ9_max_7cf53.cls ≠ "java/lang/invoke/VarHandle") ∧ (parseMethodDescriptor yJ9_max_7cf53.desc).map (fun d => d.parameters.length) = some 2 := by decide +kernel
theorem hyJ9_max_f86c9 : (yJ9_max_f86c9.cls ≠ "java/lang/invoke/MethodHandle" ∧ yJ9_max_f86c9.cls ≠ "java/lang/invoke/VarHandle") ∧ (parseMethodDescriptor yJ9_max_f86c9.desc).map (fun d => d.parameters.length) = some 2 := by decide +kernel
theorem hyJ9_min_7cf53 : (yJ9_min_7cf53.cls ≠ "java/lang/invoke/MethodHandle" ∧ yJ9_min_7cf53.cls ≠ "java/lang/invoke/VarHandle") ∧ (parseMethodDescriptor yJ9_min_7cf53.desc).map (fun d => d.parameters.length) = some 2 := by decide +kernel
theorem hyJ0_charAt_5068e : (yJ0_charAt_5068e.cls ≠ "java/lang/invoke/MethodHandle" ∧ yJ0_charAt_5068e.cls ≠ "java/lang/invoke/VarHandle") ∧ (parseMethodDescriptor yJ0_charAt_5068e.desc).map (fun d => d.parameters.length) = some 1 := by decide +kernel
theorem hyJ0_isLatin1_aae02 : (yJ0_isLatin1_aae02.cls ≠ "java/lang/invoke/MethodHandle" ∧ yJ0_isLatin1_aae02.cls ≠ "java/lang/invoke/VarHandle") ∧ (parseMethodDescriptor yJ0_isLatin1_aae02.desc).map (fun d => d.parameters.length) = some 0 := by decide +kernel
theorem hyJ0_checkIndex_df160 : (yJ0_checkIndex_df160.cls ≠ "java/lang/invoke/MethodHandle" ∧ yJ0_checkIndex_df160.cls ≠ "java/lang/invoke/VarHandle") ∧ (parseMethodDescriptor yJ0_checkIndex_df160.desc).map (fun d => d.parameters.length) = some 2 := by decide +kernel
theorem hyJ1_charAt_3b067 : (yJ1_charAt_3b067.cls ≠ "java/lang/invoke/MethodHandle" ∧ yJ1_charAt_3b067.cls ≠ "java/lang/invoke/VarHandle") ∧ (parseMethodDescriptor yJ1_charAt_3b067.desc).map (fun d => d.parameters.length) = some 2 := by decide +kernel
theorem hyJ2_getChar_3b067 : (yJ2_getChar_3b067.cls ≠ "java/lang/invoke/MethodHandle" ∧ yJ2_getChar_3b067.cls ≠ "java/lang/invoke/VarHandle") ∧ (parseMethodDescriptor yJ2_getChar_3b067.desc).map (fun d => d.parameters.length) = some 2 := by decide +kernel
theorem hyJ2_length_9d52b : (yJ2_length_9d52b.cls ≠ "java/lang/invoke/MethodHandle" ∧ yJ2_length_9d52b.cls ≠ "java/lang/invoke/VarHandle") ∧ (parseMethodDescriptor yJ2_length_9d52b.desc).map (fun d => d.parameters.length) = some 1 := by decide +kernel
theorem hyJ2_charAt_3b067 : (yJ2_charAt_3b067.cls ≠ "java/lang/invoke/MethodHandle" ∧ yJ2_charAt_3b067.cls ≠ "java/lang/invoke/VarHandle") ∧ (parseMethodDescriptor yJ2_charAt_3b067.desc).map (fun d => d.parameters.length) = some 2 := by decide +kernel
theorem hyJ2_checkIndex_2214a : (yJ2_checkIndex_2214a.cls ≠ "java/lang/invoke/MethodHandle" ∧ yJ2_checkIndex_2214a.cls ≠ "java/lang/invoke/VarHandle") ∧ (parseMethodDescriptor yJ2_checkIndex_2214a.desc).map (fun d => d.parameters.length) = some 2 := by decide +kernel
theorem hyJ7_fill_53178 : (yJ7_fill_53178.cls ≠ "java/lang/invoke/MethodHandle" ∧ yJ7_fill_53178.cls ≠ "java/lang/invoke/VarHandle") ∧ (parseMethodDescriptor yJ7_fill_53178.desc).map (fun d => d.parameters.length) = some 2 := by decide +kernel
theorem hyJ7_copyOf_59c91 : (yJ7_copyOf_59c91.cls ≠ "java/lang/invoke/MethodHandle" ∧ yJ7_copyOf_59c91.cls ≠ "java/lang/invoke/VarHandle") ∧ (parseMethodDescriptor yJ7_copyOf_59c91.desc).map (fun d => d.parameters.length) = some 2 := by decide +kernel
theorem hyJ3_checkIndex_8e157 : (yJ3_checkIndex_8e157.cls ≠ "java/lang/invoke/MethodHandle" ∧ yJ3_checkIndex_8e157.cls ≠ "java/lang/invoke/VarHandle") ∧ (parseMethodDescriptor yJ3_checkIndex_8e157.desc).map (fun d => d.parameters.length) = some 3 := by decide +kernel
theorem hyL_law : (yL_law.cls ≠ "java/lang/invoke/MethodHandle" ∧ yL_law.cls ≠ "java/lang/invoke/VarHandle") ∧ (parseMethodDescriptor yL_law.desc).map (fun d => d.parameters.length) = some 1 := by decide +kernel
