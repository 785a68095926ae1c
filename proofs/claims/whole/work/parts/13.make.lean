
/-- beside SF: the links of private constructors and of TERM_FIRST by the nest, and that rows of states and texts can be made -/
abbrev NX (P0 : Nat → Prop) (U : State) (H : Heap) (z : Nat → Nat) : Prop := SF P0 U H z ∧ va_Nw (.fieldLinkNest RX4 70 "CornerWinds" "TERM_FIRST" "[I" "CornerWinds") U ∧ va_Nw (.methodLinkNest RX7 40 yX3_init "CornerWinds") U ∧ va_Nw (.methodLinkNest RX7 47 yX0_init "CornerWinds") U ∧ va_AO "CornerWinds$State" U ∧ va_AO "CornerWinds$Text" U
theorem NX.kept {P0 : Nat → Prop} {U : State} {H H1 : Heap} {z : Nat → Nat} (h : NX P0 U H z) (hq : ∀ a : Nat, a < H.size → ¬ P0 a → H1[a]? = H[a]?) : NX P0 U H1 z := ⟨h.1.kept hq, h.2⟩
theorem NX.warm {P0 : Nat → Prop} {u U : State} {H : Heap} {z : Nat → Nat} (hW : u.WarmedH U.vm) (h : NX P0 u H z) : NX P0 U H z := ⟨h.1.warm hW, h.2.1.warmF hW, h.2.2.1.warmM hW, h.2.2.2.1.warmM hW, h.2.2.2.2.1.moved hW.alike, h.2.2.2.2.2.moved hW.alike⟩
theorem NX.same {P0 : Nat → Prop} {u U : State} {H : Heap} {z : Nat → Nat} (hv : u.vm = U.vm) (h : NX P0 u H z) : NX P0 U H z := ⟨h.1.same hv, h.2.1.same rfl hv, h.2.2.1.same rfl hv, h.2.2.2.1.same rfl hv, h.2.2.2.2.1.moved (by rw [hv]; exact Vm.Alike.refl U.vm), h.2.2.2.2.2.moved (by rw [hv]; exact Vm.Alike.refl U.vm)⟩

theorem RA_inj {U : State} {cA cB : ClassId} {ty : FieldType} (h1 : va_RA U cA ty) (h2 : va_RA U cB ty) : cA = cB := by
  cases ty with
  | object C =>
    obtain ⟨k, c, -, -, -, h⟩ := h1
    obtain ⟨k2, c2, -, -, -, g⟩ := h2
    exact Option.some.inj (h.symm.trans g)
  | _ => exact Option.some.inj (h1.symm.trans h2)
theorem vaP_mem {D : va_G} {cl : List vw_C} {ws ws' : va_W} {H : Heap} (h : va_P D cl ws H) (hm : ∀ x ∈ ws', x ∈ ws) : va_P D cl ws' H := by
  intro k x hk
  obtain ⟨i, hi⟩ := List.getElem?_of_mem (hm x (List.mem_of_getElem? hk))
  exact h i x hi
theorem vaD_left {P0 : Nat → Prop} {a b : va_W} (h : va_D P0 (a ++ b)) : va_D P0 a := by
  refine ⟨fun i j x y hi hj e => h.1 i j x y ?_ ?_ e, fun k x hk => h.2 k x ?_⟩
  · rw [List.getElem?_append_left (List.getElem?_eq_some_iff.mp hi).1]; exact hi
  · rw [List.getElem?_append_left (List.getElem?_eq_some_iff.mp hj).1]; exact hj
  · rw [List.getElem?_append_left (List.getElem?_eq_some_iff.mp hk).1]; exact hk
theorem vaD_right {P0 : Nat → Prop} {a b : va_W} (h : va_D P0 (a ++ b)) : va_D P0 b := by
  have key : ∀ (i : Nat), (a ++ b)[a.length + i]? = b[i]? := fun i => by rw [List.getElem?_append_right (by omega)]; congr 1; omega
  refine ⟨fun i j x y hi hj e => ?_, fun k x hk => h.2 (a.length + k) x (by rw [key]; exact hk)⟩
  have := h.1 (a.length + i) (a.length + j) x y (by rw [key]; exact hi) (by rw [key]; exact hj) e
  omega
theorem vaD_cross {P0 : Nat → Prop} {a b : va_W} (h : va_D P0 (a ++ b)) {x y : Nat × va_E} (hx : x ∈ a) (hy : y ∈ b) : x.1 ≠ y.1 := by
  intro e
  obtain ⟨i, hi⟩ := List.getElem?_of_mem hx
  obtain ⟨j, hj⟩ := List.getElem?_of_mem hy
  have hl := (List.getElem?_eq_some_iff.mp hi).1
  have := h.1 i (a.length + j) x y (by rw [List.getElem?_append_left hl]; exact hi) (by rw [List.getElem?_append_right (by omega)]; rw [show a.length + j - a.length = j by omega]; exact hj) e
  omega
theorem vaD_app {P0 : Nat → Prop} {a b : va_W} (h1 : va_D P0 a) (h2 : va_D P0 b) (hx : ∀ x ∈ a, ∀ y ∈ b, x.1 ≠ y.1) : va_D P0 (a ++ b) :=
  va_D.app h1 h2 (fun i j p q hp hq => hx p (List.mem_of_getElem? hp) q (List.mem_of_getElem? hq))
/-- two neighbouring stretches of a world change places -/
theorem vaD_swap {P0 : Nat → Prop} {a b c d : va_W} (h : va_D P0 (a ++ (b ++ (c ++ d)))) : va_D P0 (a ++ (c ++ (b ++ d))) := by
  have hR := vaD_right h
  have hbcd := hR
  have hcd := vaD_right hbcd
  have hb := vaD_left hbcd
  refine vaD_app (vaD_left h) (vaD_app (vaD_left hcd) (vaD_app hb (vaD_right hcd) (fun x hx y hy => vaD_cross hbcd hx (List.mem_append_right _ hy))) (fun x hx y hy => ?_)) (fun x hx y hy => ?_)
  · rcases List.mem_append.mp hy with hy | hy
    · exact (vaD_cross hbcd hy (List.mem_append_left _ hx)).symm
    · exact vaD_cross hcd hx hy
  · refine vaD_cross h hx ?_
    rcases List.mem_append.mp hy with hy | hy
    · exact List.mem_append_right _ (List.mem_append_left _ hy)
    · rcases List.mem_append.mp hy with hy | hy
      · exact List.mem_append_left _ hy
      · exact List.mem_append_right _ (List.mem_append_right _ hy)
theorem vaP_swap {D : va_G} {cl : List vw_C} {H : Heap} {a b c d : va_W} (h : va_P D cl (a ++ (b ++ (c ++ d))) H) : va_P D cl (a ++ (c ++ (b ++ d))) H :=
  vaP_mem h (fun x hx => by
    simp only [List.mem_append] at hx ⊢
    rcases hx with h | h | h | h
    · exact Or.inl h
    · exact Or.inr (Or.inr (Or.inl h))
    · exact Or.inr (Or.inl h)
    · exact Or.inr (Or.inr (Or.inr h)))
/-- the front of a world is picked anew, each cell at most once -/
theorem vaD_pick {P0 : Nat → Prop} {a a' tl : va_W} (h : va_D P0 (a ++ tl)) (is : List Nat) (hn : va_nd is = true) (hs : is.map (fun i => a[i]?) = a'.map some) : va_D P0 (a' ++ tl) := by
  have hm : ∀ x ∈ a', x ∈ a := by
    intro x hx
    have : some x ∈ is.map (fun i => a[i]?) := by rw [hs]; exact List.mem_map_of_mem hx
    obtain ⟨i, -, hi⟩ := List.mem_map.mp this
    exact List.mem_of_getElem? hi
  exact vaD_app ((vaD_left h).sub is hn hs) (vaD_right h) (fun x hx y hy => vaD_cross h (hm x hx) hy)
theorem vaP_pick {D : va_G} {cl : List vw_C} {H : Heap} {a a' tl : va_W} (h : va_P D cl (a ++ tl) H) (is : List Nat) (hs : is.map (fun i => a[i]?) = a'.map some) : va_P D cl (a' ++ tl) H := by
  refine vaP_mem h (fun x hx => ?_)
  rcases List.mem_append.mp hx with hx | hx
  · have : some x ∈ is.map (fun i => a[i]?) := by rw [hs]; exact List.mem_map_of_mem hx
    obtain ⟨i, -, hi⟩ := List.mem_map.mp this
    exact List.mem_append_left _ (List.mem_of_getElem? hi)
  · exact List.mem_append_right _ hx
theorem vaP_mv {D : va_G} {cl : List vw_C} {H : Heap} {a tl : va_W} {x : Nat × va_E} (h : va_P D cl ((a ++ tl) ++ [x]) H) : va_P D cl ((a ++ [x]) ++ tl) H :=
  vaP_mem h (fun y hy => by simp only [List.mem_append] at hy ⊢; rcases hy with (h | h) | h <;> simp [h])
theorem vaD_mv {P0 : Nat → Prop} {a tl : va_W} {x : Nat × va_E} (h : va_D P0 ((a ++ tl) ++ [x])) : va_D P0 ((a ++ [x]) ++ tl) := by
  have h1 := vaD_swap (a := a) (b := tl) (c := [x]) (d := []) (by simpa using h)
  simpa using h1
/-- the room of a constructor -/
abbrev rmN (h mc ms : Nat) : Room := { frames := h, cells := mc, slots := ms, locals := 60 * h }
/-- a constructor: of the cells pre it makes cells of which post holds; the rest tl stays -/
abbrev McN (l : Launch) (y : MethodName) (cc : ByteArray) (nL : Nat) (h mc ms : Nat) (av : List Value) (D : va_G) (cy : Nat → ClassId) (P0 : Nat → Prop) (z : Nat → Nat) (tl pre : va_W) (post : va_W → Prop) : Prop :=
  Met l y (Cond.code y cc nL none :: WT) (rmN h mc ms) (va_Pc av (fun U => va_K D vwCl (tys6 cy) U ∧ va_P D vwCl (pre ++ tl) U.heap ∧ va_D P0 (pre ++ tl) ∧ NX P0 U U.heap z ∧ ∀ x, U.heap.size ≤ x → P0 x)) (fun _ st oc t => (oc = .returned none ∧ ∃ ws, post ws ∧ va_P D vwCl (ws ++ tl) t.heap ∧ va_D P0 (ws ++ tl)) ∧ va_F P0 st t) mc ms P0
section Make
variable {p : Program} {l : Launch} {e : Env} {s : State} {m : MethodId} {args : Array Value} {below : List Frame} {meth : Method} {c : Code} {H H0 : Heap} {locs : List Loc} {cells slots h h' n idx nL maxL mc ms : Nat} {Q : State → Prop} {cc bytes : ByteArray} {pc : Nat} {ls : Array Slot} {rest As st0 : List Value} {ret ret' : Option FieldType} {y : MethodName} {R : Room} {own Cn : String} {b : Addr}
variable {D : va_G} {cy : Nat → ClassId} {P0 : Nat → Prop} {z : Nat → Nat} {tl a pre : va_W} {post : va_W → Prop} {tys : List (ClassId × FieldType)}
theorem w_newa {atype : ArrayType} {ty : FieldType} {k0 : Nat} {cyk : ClassId} {v : Int32} {N : Nat} {a0 : vp_A} (C : Cx p s m args meth c cc nL own ret) (harr : Cond.arrayClass (newarray.typeOf atype) ∈ WT) (hty : newarray.typeOf atype = ty) (hK : va_K D vwCl tys s) (ht : tys[k0]? = some (cyk, ty)) (hP : va_P D vwCl (a ++ tl) H) (hD : va_D P0 (a ++ tl)) (hS : va_S P0 s.heap H locs) (hA : ∀ x, s.heap.size ≤ x → P0 x)
    (ha : ∀ cA : ClassId, vp_cell cA a0 = arrV cA N (fun _ => defaultValue ty)) (hn : ¬ v < 0) (hN : v.toNatClampNeg = N) (hbytes : N * componentBytes ty ≤ 536870912) (hcells : cells + 1 ≤ R.cells) (hslots : slots + N ≤ R.slots) (hd : decode cc pc = .ok (.newarray atype, 2))
    (kk : ∀ (q : Nat) (H1 : Heap), va_P D vwCl ((a ++ [(q, .inl (cyk, a0))]) ++ tl) H1 → va_D P0 ((a ++ [(q, .inl (cyk, a0))]) ++ tl) → va_S P0 s.heap H1 locs → W p l e R s m args below meth c H1 locs (cells + 1) (slots + N) Q (F0 m (pc + 2) ls (.ref q :: rest))) :
    W p l e R s m args below meth c H locs cells slots Q (F0 m pc ls (.int v :: rest)) := by
  refine va_newa (D := D) C.1 C.2.1 (C.2.2.2.2.1 _ harr) hty hK hP hD hS hA ha hn hN hbytes hcells hslots hd (fun q cA H1 hK1 hP1 hD1 hS1 => ?_)
  have e1 : cA = cyk := by
    have h1 := (hK1.2 tys.length (cA, ty) (by rw [List.getElem?_append_right (Nat.le_refl _)]; simp)).2
    exact RA_inj h1 (hK.2 k0 _ ht).2
  subst e1
  exact kk q H1 (vaP_mv hP1) (vaD_mv hD1) hS1
theorem w_newq {Cq : String} {k0 : Nat} {cyk : ClassId} {v : Int32} {N : Nat} (C : Cx p s m args meth c cc nL own ret) (w1 : Cond.classLink own idx Cq ∈ WT) (hover : va_AO Cq s) (hK : va_K D vwCl tys s) (ht : tys[k0]? = some (cyk, .object Cq)) (hP : va_P D vwCl (a ++ tl) H) (hD : va_D P0 (a ++ tl)) (hS : va_S P0 s.heap H locs) (hA : ∀ x, s.heap.size ≤ x → P0 x)
    (hn : ¬ v < 0) (hN : v.toNatClampNeg = N) (hbytes : N * 4 ≤ 536870912) (hcells : cells + 1 ≤ R.cells) (hslots : slots + N ≤ R.slots) (hd : decode cc pc = .ok (.anewarray idx, 3))
    (kk : ∀ (q : Nat) (H1 : Heap), va_P D vwCl ((a ++ [(q, .inl (cyk, N, .inr (.inr (.inr (.inr (fun _ => none))))))]) ++ tl) H1 → va_D P0 ((a ++ [(q, .inl (cyk, N, .inr (.inr (.inr (.inr (fun _ => none))))))]) ++ tl) → va_S P0 s.heap H1 locs → W p l e R s m args below meth c H1 locs (cells + 1) (slots + N) Q (F0 m (pc + 3) ls (.ref q :: rest))) :
    W p l e R s m args below meth c H locs cells slots Q (F0 m pc ls (.int v :: rest)) := by
  refine va_newq (D := D) C.1 C.2.1 C.2.2.2.1 (C.2.2.2.2.1 _ w1) hover hK hP hD hS hA hn hN hbytes hcells hslots hd (fun q cA H1 hK1 hP1 hD1 hS1 => ?_)
  have e1 : cA = cyk := by
    have h1 := (hK1.2 tys.length (cA, .object Cq) (by rw [List.getElem?_append_right (Nat.le_refl _)]; simp)).2
    exact RA_inj h1 (hK.2 k0 _ ht).2
  subst e1
  exact kk q H1 (vaP_mv hP1) (vaD_mv hD1) hS1
theorem w_new {Cq : String} {Tq : u_T} {Nq ci : Nat} {fs : List Value} {tq : Nat → FieldType} (C : Cx p s m args meth c cc nL own ret) (hin : ∀ w ∈ u_ws Cq Tq Nq, w ∈ WT) (hty : ∀ k, k < Nq → parseFieldDescriptor (Tq k).2.2.1 = some (tq k)) (w1 : Cond.classLink own idx Cq ∈ WT) (w2 : Cond.instantiable Cq Nq ∈ WT) (w3 : Cond.initialized Cq ∈ WT) (hK : va_K D vwCl tys s) (hP : va_P D vwCl (a ++ tl) H) (hD : va_D P0 (a ++ tl)) (hS : va_S P0 s.heap H locs) (hA : ∀ x, s.heap.size ≤ x → P0 x) (hc : vwCl[ci]? = some (Cq, Tq, Nq)) (hfs : ∀ j, j < Nq → defaultValue (tq j) = vp_V fs j) (hcells : cells + 1 ≤ R.cells) (hslots : slots + Nq ≤ R.slots) (hd : decode cc pc = .ok (.new idx, 3))
    (kk : ∀ (q : Nat) (H1 : Heap), va_P D vwCl ((a ++ [(q, .inr (ci, fs))]) ++ tl) H1 → va_D P0 ((a ++ [(q, .inr (ci, fs))]) ++ tl) → va_S P0 s.heap H1 locs → W p l e R s m args below meth c H1 locs (cells + 1) (slots + Nq) Q (F0 m (pc + 3) ls (.ref q :: rest))) :
    W p l e R s m args below meth c H locs cells slots Q (F0 m pc ls rest) :=
  va_new (D := D) C.1 C.2.1 C.2.2.2.2.1 hin tq hty C.2.2.2.1 (C.2.2.2.2.1 _ w1) (C.2.2.2.2.1 _ w2) (C.2.2.2.2.1 _ w3) hK hP hD hS hA hc hfs hcells hslots hd (fun q H1 hP1 hD1 hS1 => kk q H1 (vaP_mv hP1) (vaD_mv hD1) hS1)
theorem N_start {av : List Value} (hy : plainName y.cls = true) (hnm : y.name = "<init>") (hlen : (lg_sl av).length ≤ nL)
    (body : ∀ p e s m args below meth c H locs, Cx p s m args meth c cc nL y.cls none → meth.name = "<init>" → va_K D vwCl (tys6 cy) s → va_P D vwCl (pre ++ tl) H → va_D P0 (pre ++ tl) → va_S P0 s.heap H locs → NX P0 s s.heap z → (∀ x, s.heap.size ≤ x → P0 x) → ∀ ls, lv_has ls nL (lv_args 0 av) →
      W p l e (rmN h mc ms) s m args below meth c H locs 0 0 (MQ below (fun _ st oc t => (oc = .returned none ∧ ∃ ws, post ws ∧ va_P D vwCl (ws ++ tl) t.heap ∧ va_D P0 (ws ++ tl)) ∧ va_F P0 st t) args s mc ms P0) (F0 m 0 ls [])) :
    McN l y cc nL h mc ms av D cy P0 z tl pre post := by
  refine Met.ofW (cc := cc) (maxL := nL) (ret := none) hy rfl ?_
  intro p e s m args below meth c s₁ B0 hml hv
  obtain ⟨rfl, hK, hP, hD, hF, hA⟩ := hv
  have hts := atoms_spec (ws := Cond.code y cc nL none :: WT) B0.pre
  rw [lg_entry_eq]
  exact body p e s m _ below meth c _ _ ⟨B0.exec, B0.bytes, hml, findClass_of_methodNamed B0.named, fun w hw => hts w (List.mem_cons_of_mem _ hw), B0.returns, B0.notSynchronized⟩ (hnm ▸ (name_of_methodNamed B0.named B0.method).1) hK hP hD va_S.rf hF hA _ (lv_entry av hlen)
theorem N_objInit (C : Cx p s m args meth c cc nL own ret) (w1 : Cond.methodLink own idx objectInit ∈ WT) (hsz : ls.size = nL) (hd : decode cc pc = .ok (.invokespecial idx, 3)) (hf : 1 ≤ R.frames) (hlo : 60 ≤ R.locals) (hW : (rest.map fun v => v.category).sum ≤ 8)
    (kk : W p l e R s m args below meth c H locs cells slots Q (F0 m (pc + 3) ls rest)) : W p l e R s m args below meth c H locs cells slots Q (F0 m pc ls (.ref b :: rest)) := by
  refine W.objInit C.1 C.2.1 C.2.2.2.1 (C.2.2.2.2.1 _ w1) (C.2.2.2.2.1 _ im_objectInit) (C.2.2.2.2.1 _ co_objectInit) rfl (hsz.trans C.2.2.1.symm) rfl hd hf ?_ kk
  have := lv_room (m := m) (pc := pc) (ls := ls) (rest := Value.ref b :: rest) hW
  omega
theorem N_vret {ws : va_W} (C : Cx p s m args meth c cc nL own none) (hp : post ws) (hP : va_P D vwCl (ws ++ tl) H) (hD : va_D P0 (ws ++ tl)) (hS : va_S P0 s.heap H locs) (hc : cells ≤ mc) (hs : slots ≤ ms) (hd : decode cc pc = .ok (.return_, 1)) :
    W p l e R s m args below meth c H locs cells slots (MQ below (fun _ st oc t => (oc = .returned none ∧ ∃ ws, post ws ∧ va_P D vwCl (ws ++ tl) t.heap ∧ va_D P0 (ws ++ tl)) ∧ va_F P0 st t) args s mc ms P0) (F0 m pc ls []) :=
  W.widen hc hs (W.vret C.1 C.2.1 C.2.2.2.2.2.1 (fun t ht _ => ⟨⟨rfl, ws, hp, by rw [ht]; exact hP, hD⟩, hS.F ht⟩) hS.2.2 hd (hlocks := C.2.2.2.2.2.2))
theorem N_run {Qa : State → Outcome → State → Prop} (hq : Qa = fun st oc t => (oc = .returned none ∧ ∃ ws, post ws ∧ va_P D vwCl (ws ++ tl) t.heap ∧ va_D P0 (ws ++ tl)) ∧ va_F P0 st t) (hr : va_Run p l e R s m args below meth c H locs cells slots mc ms (F0 m pc ls st0) rest Qa P0) (hS : va_S P0 s.heap H locs)
    (kk : ∀ (H1 : Heap) (locs1 : List Loc) (ws : va_W), post ws → va_P D vwCl (ws ++ tl) H1 → va_D P0 (ws ++ tl) → va_S P0 s.heap H1 locs1 → W p l e R s m args below meth c H1 locs1 (cells + mc) (slots + ms) Q (F0 m (pc + 3) ls rest)) :
    W p l e R s m args below meth c H locs cells slots Q (F0 m pc ls st0) := by
  subst hq
  intro T hT X
  obtain ⟨v, st₀, t, T', L, h0, X', hL, e1, e2, ⟨⟨hv, ws, hp, hP1, hD1⟩, hz, hk⟩, st⟩ := hr T hT X
  cases hv
  rw [h0] at hz hk
  obtain ⟨t2, a1, b1⟩ := kk T'.heap (locs ++ L) ws hp (by rw [e1]; exact hP1) hD1 ⟨Nat.le_trans hS.1 (by rw [e1]; exact hz), fun x h1 h2 => by rw [e1, hk x (Nat.lt_of_lt_of_le h1 hS.1) h2]; exact hS.2.1 x h1 h2, fun x hx => by
      rcases List.mem_append.mp hx with h | h
      · exact hS.2.2 x h
      · exact hL x h⟩ T' rfl X'
  exact ⟨t2, st t2 a1, b1⟩
theorem N_call (C : Cx p s m args meth c cc nL own ret) (hK : va_K D vwCl (tys6 cy) s) (hP : va_P D vwCl (pre ++ tl) H) (hD : va_D P0 (pre ++ tl)) (hS : va_S P0 s.heap H locs) (hF : NX P0 s s.heap z) (hA : ∀ x, s.heap.size ≤ x → P0 x) (hM : McN l y bytes maxL h' mc ms (.ref b :: As) D cy P0 z tl pre post) (w1 : Cond.methodLink own idx y ∈ WT) (w2 : Cond.instanceMethod y ∈ WT) (w4 : Cond.initialized y.cls ∈ WT) (w5 : Cond.code y bytes maxL none ∈ WT)
    (hy : (y.cls ≠ "java/lang/invoke/MethodHandle" ∧ y.cls ≠ "java/lang/invoke/VarHandle") ∧ (parseMethodDescriptor y.desc).map (fun d => d.parameters.length) = some n) (hn : As.length = n) (hnm : y.name = "<init>") (hR : h' + 1 ≤ R.frames ∧ 8 + (maxL + 11) + 60 * h' ≤ R.locals)
    (hsz : ls.size = nL) (hst : st0 = As.reverse ++ .ref b :: rest) (hW : (rest.map fun v => v.category).sum ≤ 8) (hd : decode cc pc = .ok (.invokespecial idx, 3)) (hf : cells + mc ≤ R.cells ∧ slots + ms ≤ R.slots)
    (kk : ∀ (H1 : Heap) (locs1 : List Loc) (ws : va_W), post ws → va_P D vwCl (ws ++ tl) H1 → va_D P0 (ws ++ tl) → va_S P0 s.heap H1 locs1 → W p l e R s m args below meth c H1 locs1 (cells + mc) (slots + ms) Q (F0 m (pc + 3) ls rest)) :
    W p l e R s m args below meth c H locs cells slots Q (F0 m pc ls st0) := by
  subst hst
  refine N_run rfl (va_runI (Ts := WT) ⟨C.1, C.2.1, C.2.2.1, C.2.2.2.1, C.2.2.2.2.1⟩ hM ⟨wt_callB (rm := rmN h' mc ms) C w1 w4 w5 rfl rfl hy hR, hnm, C.2.2.2.2.1 _ w2⟩ ⟨fun a U g mk z => ?_, fun U hU hW => ⟨rfl, va_K.moved hW.alike hK, by rw [hU]; exact hP, hD, by rw [hU]; exact NX.warm hW (hF.kept (fun a h1 h2 => hS.2.1 a h1 h2)), fun x hx => hA x (by rw [hU] at hx; exact Nat.le_trans hS.1 hx)⟩⟩ rfl hn hsz rfl (lv_room hW) hd hf) hS kk
  obtain ⟨z0, z1, z2, z3, z4, z5⟩ := z
  exact ⟨z0, va_K.moved (u := U) (U := U.calling g mk a) (Vm.Alike.refl U.vm) z1, z2, z3, NX.same (u := U) (U := U.calling g mk a) rfl z4, z5⟩
theorem N_callN {host : String} (C : Cx p s m args meth c cc nL own ret) (hK : va_K D vwCl (tys6 cy) s) (hP : va_P D vwCl (pre ++ tl) H) (hD : va_D P0 (pre ++ tl)) (hS : va_S P0 s.heap H locs) (hF : NX P0 s s.heap z) (hA : ∀ x, s.heap.size ≤ x → P0 x) (hM : McN l y bytes maxL h' mc ms (.ref b :: As) D cy P0 z tl pre post) (w1 : va_Nw (.methodLinkNest own idx y host) s) (w2 : Cond.instanceMethod y ∈ WT) (w4 : Cond.initialized y.cls ∈ WT) (w5 : Cond.code y bytes maxL none ∈ WT)
    (hy : (y.cls ≠ "java/lang/invoke/MethodHandle" ∧ y.cls ≠ "java/lang/invoke/VarHandle") ∧ (parseMethodDescriptor y.desc).map (fun d => d.parameters.length) = some n) (hn : As.length = n) (hnm : y.name = "<init>") (hR : h' + 1 ≤ R.frames ∧ 8 + (maxL + 11) + 60 * h' ≤ R.locals)
    (hsz : ls.size = nL) (hst : st0 = As.reverse ++ .ref b :: rest) (hW : (rest.map fun v => v.category).sum ≤ 8) (hd : decode cc pc = .ok (.invokespecial idx, 3)) (hf : cells + mc ≤ R.cells ∧ slots + ms ≤ R.slots)
    (kk : ∀ (H1 : Heap) (locs1 : List Loc) (ws : va_W), post ws → va_P D vwCl (ws ++ tl) H1 → va_D P0 (ws ++ tl) → va_S P0 s.heap H1 locs1 → W p l e R s m args below meth c H1 locs1 (cells + mc) (slots + ms) Q (F0 m (pc + 3) ls rest)) :
    W p l e R s m args below meth c H locs cells slots Q (F0 m pc ls st0) := by
  subst hst
  have hGood : GoodIn WT (Cond.code y bytes maxL none :: WT) := fun w h => by
    rcases List.mem_cons.mp h with rfl | h
    · exact ⟨w5, good_of_word (List.mem_filter.mp w5).2⟩
    · exact ⟨h, good_of_word (List.mem_filter.mp h).2⟩
  refine N_run rfl (va_runIN (Ts := WT) (host := host) ⟨C.1, C.2.1, C.2.2.1, C.2.2.2.1, C.2.2.2.2.1⟩ hM ⟨va_cnB (rm := rmN h' mc ms) n C.2.2.2.2.1 hGood rfl rfl rfl w1 (C.2.2.2.2.1 _ w4) ⟨hy.1.1, hy.1.2, hy.2⟩ hR, hnm, C.2.2.2.2.1 _ w2⟩ ⟨fun a U g mk z => ?_, fun U hU hW => ⟨rfl, va_K.moved hW.alike hK, by rw [hU]; exact hP, hD, by rw [hU]; exact NX.warm hW (hF.kept (fun a h1 h2 => hS.2.1 a h1 h2)), fun x hx => hA x (by rw [hU] at hx; exact Nat.le_trans hS.1 hx)⟩⟩ rfl hn hsz rfl (lv_room hW) hd hf) hS kk
  obtain ⟨z0, z1, z2, z3, z4, z5⟩ := z
  exact ⟨z0, va_K.moved (u := U) (U := U.calling g mk a) (Vm.Alike.refl U.vm) z1, z2, z3, NX.same (u := U) (U := U.calling g mk a) rfl z4, z5⟩
end Make
