
theorem vaD_perm {P0 : Nat → Prop} {ws ws' : va_W} (hp : ws.Perm ws') : ∀ a : va_W, va_D P0 (a ++ ws) → va_D P0 (a ++ ws') := by
  induction hp with
  | nil => intro a h; exact h
  | cons x hp ih =>
    intro a h
    have e : ∀ l : va_W, a ++ x :: l = (a ++ [x]) ++ l := fun l => by simp
    rw [e] at h ⊢
    exact ih _ h
  | swap x y l => intro a h; exact vaD_swap (a := a) (b := [y]) (c := [x]) (d := l) h
  | trans h1 h2 ih1 ih2 => intro a h; exact ih2 a (ih1 a h)
abbrev mUsed : List Nat := [46, 1, 2, 3, 4, 5, 6, 14, 17, 18, 19, 22, 23, 24, 32, 33, 39, 40, 42, 43, 44]
/-- a number that is no array of the reference stands for its object -/
def mkU (k : Nat) : Nat := if mUsed.contains k then k else 46
def mq (q : Nat → Nat) : Nat → Nat := fun k => q (mkU k)
theorem MW_mq (cy : Nat → ClassId) (q : Nat → Nat) (I : Nat → Int32) (J : Nat → Int64) (A : Nat → Nat → Int32) (B : Nat → Nat → Int64) : MW cy (mq q) I J A B = MW cy q I J A B := rfl
theorem MW_ad (cy : Nat → ClassId) (q : Nat → Nat) (I : Nat → Int32) (J : Nat → Int64) (A : Nat → Nat → Int32) (B : Nat → Nat → Int64) : (MW cy q I J A B).map (fun x => x.1) = mUsed.map q := rfl
theorem mkU_in (k : Nat) : mkU k ∈ mUsed := by
  unfold mkU
  by_cases h : mUsed.contains k = true
  · rw [if_pos h]; simpa using h
  · rw [if_neg h]; decide
theorem MA_mem {cy : Nat → ClassId} {q : Nat → Nat} {I : Nat → Int32} {J : Nat → Int64} {A : Nat → Nat → Int32} {B : Nat → Nat → Int64} {x : Nat} (h : MA (mq q) x) : ∃ e, (x, e) ∈ MW cy (mq q) I J A B := by
  obtain ⟨k, -, rfl⟩ := h
  have h1 : mq q k ∈ mUsed.map q := List.mem_map.mpr ⟨mkU k, mkU_in k, rfl⟩
  rw [MW_mq, ← MW_ad cy q I J A B] at *
  obtain ⟨y, hy, e⟩ := List.mem_map.mp h1
  exact ⟨y.2, by rw [← e]; exact hy⟩
theorem MA_of {cy : Nat → ClassId} {q : Nat → Nat} {I : Nat → Int32} {J : Nat → Int64} {A : Nat → Nat → Int32} {B : Nat → Nat → Int64} {x : Nat × va_E} (h : x ∈ MW cy q I J A B) : MA q x.1 := by
  have h1 : x.1 ∈ (MW cy q I J A B).map (fun x => x.1) := List.mem_map.mpr ⟨x, h, rfl⟩
  rw [MW_ad] at h1
  obtain ⟨k, hk, e⟩ := List.mem_map.mp h1
  have hb : ∀ k ∈ mUsed, k < 47 := by decide
  exact ⟨k, hb k hk, e.symm⟩
section LAW
variable {p : Program} {l : Launch} {e : Env} {s : State} {m : MethodId} {args : Array Value} {below : List Frame} {meth : Method} {c : Code} {H : Heap} {locs : List Loc} {cells slots h h' n idx nL maxL : Nat} {Q : State → Prop} {cc bytes : ByteArray} {pc : Nat} {ls : Array Slot} {rest As st0 : List Value} {ret ret' : Option FieldType} {y : MethodName} {R : Room} {own : String}
variable {D : va_G} {cy : Nat → ClassId} {P0 : Nat → Prop} {q z qm : Nat → Nat} {tl t1 t2 t3 : va_W} {xx : (Nat → Option Nat) × (Nat → Option Nat) × Nat} {I I1 I2 : Nat → Int32} {J J1 J2 : Nat → Int64} {A A1 A2 : Nat → Nat → Int32} {B B1 B2 : Nat → Nat → Int64}
theorem CI_swap (hI : CI D cy s P0 s.heap H locs q z (t1 ++ (t2 ++ t3)) xx I J A B) : CI D cy s P0 s.heap H locs q z (t2 ++ (t1 ++ t3)) xx I J A B :=
  ⟨hI.1, vaP_swap hI.2.1, vaD_swap hI.2.2.1, hI.2.2.2⟩
/-- a call of the reference, the class and all else beside it -/
theorem M_callR {r : Option Value} (C : Cx p s m args meth c cc nL own ret) (hI : CI D cy s P0 s.heap H locs q z (tl ++ MW cy (mq qm) I1 J1 A1 B1) xx I J A B) (hM : McI l y bytes maxL ret' h' (.ref (mq qm 46) :: As) D cy (mq qm) I1 J1 A1 B1 r I2 J2 A2 B2) (w1 : Cond.methodLink own idx y ∈ WT) (w2 : Cond.instanceMethod y ∈ WT) (w3 : Cond.selects RX8 y y ∈ WT) (w4 : Cond.initialized y.cls ∈ WT) (w5 : Cond.code y bytes maxL ret' ∈ WT)
    (hy : (y.cls ≠ "java/lang/invoke/MethodHandle" ∧ y.cls ≠ "java/lang/invoke/VarHandle") ∧ (parseMethodDescriptor y.desc).map (fun d => d.parameters.length) = some n) (hn : As.length = n) (hR : h' + 1 ≤ R.frames ∧ 8 + (maxL + 11) + 60 * h' ≤ R.locals ∧ cells ≤ R.cells ∧ slots ≤ R.slots)
    (hsz : ls.size = nL) (hst : st0 = As.reverse ++ .ref (mq qm 46) :: rest) (hW : (rest.map fun v => v.category).sum ≤ 8) (hd : decode cc pc = .ok (.invokevirtual idx, 3))
    (kk : ∀ (H1 : Heap) (locs1 : List Loc), CI D cy s P0 s.heap H1 locs1 q z (tl ++ MW cy (mq qm) I2 J2 A2 B2) xx I J A B → W p l e R s m args below meth c H1 locs1 cells slots Q (F0 m (pc + 3) ls (r.toList ++ rest))) :
    W p l e R s m args below meth c H locs cells slots Q (F0 m pc ls st0) := by
  obtain ⟨hK, hP, hD, hS, hF⟩ := hI
  rw [← List.append_assoc] at hP hD
  have hK4 : va_K D vwCl (tys4 cy) s := hK.sub [0, 1, 2, 3] rfl
  have hPm : va_P D vwCl (MW cy (mq qm) I1 J1 A1 B1) H := vaP_mem hP (fun x hx => List.mem_append_right _ hx)
  have hDm : va_D (MA (mq qm)) (MW cy (mq qm) I1 J1 A1 B1) := ⟨(vaD_right hD).1, fun k x hk => MA_of (List.mem_of_getElem? hk)⟩
  have hin : ∀ x, MA (mq qm) x → P0 x := by
    intro x hx
    obtain ⟨e, he⟩ := MA_mem (cy := cy) (I := I1) (J := J1) (A := A1) (B := B1) hx
    obtain ⟨i, hi⟩ := List.getElem?_of_mem he
    exact (vaD_right hD).2 i _ hi
  have hrv : ∃ cell : Cell, H[mq qm 46]? = some cell ∧ cell.vm.isStatics = false ∧ s.vm.findClass RX8 = some cell.cls := va_recv hK4 hPm (ci := 8) (q0 := 0) rfl rfl
  have hr := run_V (l := l) (e := e) (below := below) (H := H) (locs := locs) (cells := cells) (slots := slots) (R := R) (rm := rmL h') (C := RX8) (b := mq qm 46) (As := As) (rest := rest) C hM (wt_callB (rm := rmL h') C w1 w4 w5 rfl rfl hy ⟨hR.1, hR.2.1⟩) w2 w3
    ⟨fun a U g mk z => by
      obtain ⟨z0, z1, z2, z3⟩ := z
      exact ⟨z0, va_K.moved (u := U) (U := U.calling g mk a) (Vm.Alike.refl U.vm) z1, z2, z3⟩, hrv, fun U hU hW => ⟨rfl, va_K.moved hW.alike hK4, by rw [hU]; exact hPm, hDm⟩⟩ hn hsz hst hW hd ⟨hR.2.2.1, hR.2.2.2⟩
  intro T hT X
  obtain ⟨v, st₀, t, T', L, h0, X', hL, e1, e2, ⟨⟨hv, hP1, hD1⟩, hz, hk⟩, st⟩ := hr T hT X
  cases hv
  rw [h0] at hz hk
  have hPo : va_P D vwCl (CW cy q xx I J A B ++ tl) t.heap := by
    have h0 : va_P D vwCl (CW cy q xx I J A B ++ tl) H := vaP_mem hP (fun x hx => List.mem_append_left _ hx)
    refine h0.kept (fun k x hk1 => hk x.1 ((h0 k x hk1).lt) (fun hm => ?_))
    obtain ⟨e, he⟩ := MA_mem (cy := cy) (I := I1) (J := J1) (A := A1) (B := B1) hm
    exact vaD_cross hD (List.mem_of_getElem? hk1) he rfl
  have hDo : va_D P0 ((CW cy q xx I J A B ++ tl) ++ MW cy (mq qm) I2 J2 A2 B2) := by
    refine vaD_app (vaD_left hD) ⟨hD1.1, fun k x hk1 => hin _ (hD1.2 k x hk1)⟩ (fun x hx y hy e => ?_)
    obtain ⟨e3, he⟩ := MA_mem (cy := cy) (I := I1) (J := J1) (A := A1) (B := B1) (MA_of hy)
    exact vaD_cross hD hx he e
  have hPn := hPo.app hP1
  rw [List.append_assoc] at hPn hDo
  obtain ⟨t2, a1, b1⟩ := kk T'.heap (locs ++ L) ⟨hK, by rw [e1]; exact hPn, hDo, ⟨Nat.le_trans hS.1 (by rw [e1]; exact hz), fun x h1 h2 => by rw [e1, hk x (Nat.lt_of_lt_of_le h1 hS.1) (fun hm => h2 (hin x hm))]; exact hS.2.1 x h1 h2, fun x hx => by
      rcases List.mem_append.mp hx with h | h
      · exact hS.2.2 x h
      · exact hin _ (hL x h)⟩, hF⟩ T' rfl X'
  exact ⟨t2, st t2 a1, b1⟩
end LAW
/-! texts and images behind the class -/
abbrev Txt : Type := Nat × Nat × (Nat → Int32) × (Nat → Int32)
abbrev Img : Type := (Nat → Int32) × (Nat → Nat → Int32) × (Nat → Option Txt)
def txC (cy : Nat → ClassId) (x : Nat × Nat × Nat × Txt) : va_W := TC cy x.1 x.2.1 x.2.2.1 x.2.2.2.1 x.2.2.2.2.1 x.2.2.2.2.2.1 x.2.2.2.2.2.2
def txW (cy : Nat → ClassId) (ts : List (Nat × Nat × Nat × Txt)) : va_W := ts.flatMap (txC cy)
/-- the references x to texts are the texts T -/
def TR (ts : List (Nat × Nat × Nat × Txt)) (x : Nat → Option Nat) (T : Nat → Option Txt) : Prop := ∀ j, j < 8 → (x j = none ∧ T j = none) ∨ ∃ (ta tb tc : Nat) (t : Txt), x j = some ta ∧ T j = some t ∧ (ta, tb, tc, t) ∈ ts
def imW (cy : Nat → ClassId) (o : Option ((Nat → Nat) × (Nat → Option Nat) × (Nat → Int32) × (Nat → Nat → Int32))) : va_W := match o with
  | none => []
  | some x => SW cy x.1 x.2.1 x.2.2.1 x.2.2.2
/-- the reference y to an image is the image M -/
def IR (ts : List (Nat × Nat × Nat × Txt)) (y : Option Nat) (o : Option ((Nat → Nat) × (Nat → Option Nat) × (Nat → Int32) × (Nat → Nat → Int32))) (M : Option Img) : Prop :=
  (y = none ∧ o = none ∧ M = none) ∨ ∃ (qi : Nat → Nat) (txi : Nat → Option Nat) (Ii : Nat → Int32) (Ai : Nat → Nat → Int32) (Ti : Nat → Option Txt), y = some (qi 0) ∧ o = some (qi, txi, Ii, Ai) ∧ M = some (Ii, Ai, Ti) ∧ TR ts txi Ti
theorem TR.more {ts : List (Nat × Nat × Nat × Txt)} {x : Nat → Option Nat} {T : Nat → Option Txt} (h : TR ts x T) (t2 : List (Nat × Nat × Nat × Txt)) : TR (ts ++ t2) x T := by
  intro j hj
  rcases h j hj with h | ⟨ta, tb, tc, t, h1, h2, h3⟩
  · exact Or.inl h
  · exact Or.inr ⟨ta, tb, tc, t, h1, h2, List.mem_append_left _ h3⟩
theorem IR.more {ts : List (Nat × Nat × Nat × Txt)} {y : Option Nat} {o : Option ((Nat → Nat) × (Nat → Option Nat) × (Nat → Int32) × (Nat → Nat → Int32))} {M : Option Img} (h : IR ts y o M) (t2 : List (Nat × Nat × Nat × Txt)) : IR (ts ++ t2) y o M := by
  rcases h with h | ⟨qi, txi, Ii, Ai, Ti, h1, h2, h3, h4⟩
  · exact Or.inl h
  · exact Or.inr ⟨qi, txi, Ii, Ai, Ti, h1, h2, h3, h4.more t2⟩
theorem TR_bcT {ts : List (Nat × Nat × Nat × Txt)} {x1 x2 : Nat → Option Nat} {T1 T2 : Nat → Option Txt} (h2 : TR ts x2 T2) : TR ts (bcT 8 x1 x2) (fun j => if j < 8 then T2 j else T1 j) := by
  intro j hj
  simp only [bcT, if_pos hj]
  exact h2 j hj
theorem TR.cell {ts : List (Nat × Nat × Nat × Txt)} {x : Nat → Option Nat} {T : Nat → Option Txt} (cy : Nat → ClassId) (h : TR ts x T) : ∀ i v, i < 8 → x i = some v → ∃ vs, (v, (.inr (6, vs) : va_E)) ∈ txW cy ts := by
  intro i v hi hv
  rcases h i hi with h | ⟨ta, tb, tc, t, h1, h2, h3⟩
  · rw [h.1] at hv; cases hv
  · rw [h1] at hv
    obtain rfl := Option.some.inj hv
    exact ⟨[.ref tb, .ref tc], List.mem_flatMap.mpr ⟨_, h3, List.mem_cons_self⟩⟩
