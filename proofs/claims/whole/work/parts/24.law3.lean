
theorem ix_lt {x : Int32} {n : Nat} (k : Int32) (hk : k.toInt = (n : Int)) (h0 : ¬ x < 0) (h1 : ¬ k ≤ x) : ix x < n := by
  have h2 : ¬ x.toInt < (0 : Int32).toInt := fun h => h0 (Int32.lt_iff_toInt_lt.mpr h)
  have h3 : ¬ k.toInt ≤ x.toInt := fun h => h1 (Int32.le_iff_toInt_le.mpr h)
  have e0 : (0 : Int32).toInt = 0 := by decide
  simp only [ix, Int32.toNatClampNeg]
  omega
theorem wi_0 {x1 : Int32} (h : inB x1 2 = false) : sX7_isWithin x1 0 1 = some 0 := by
  rw [sX7_isWithin]
  by_cases h0 : x1 < 0
  · rw [if_pos h0]; rfl
  · rw [if_neg h0]
    by_cases h1 : (1 : Int32) < x1
    · rw [if_pos h1]; rfl
    · exfalso
      have : inB x1 2 = true := by
        have h2 : ¬ x1.toInt < (0 : Int32).toInt := fun h => h0 (Int32.lt_iff_toInt_lt.mpr h)
        have h3 : ¬ (1 : Int32).toInt < x1.toInt := fun h => h1 (Int32.lt_iff_toInt_lt.mpr h)
        have e0 : (0 : Int32).toInt = 0 := by decide
        have e1 : (1 : Int32).toInt = 1 := by decide
        have h4 : ix x1 < 2 := by simp only [ix, Int32.toNatClampNeg]; omega
        have h5 : (0 : Int32) ≤ x1 := Int32.le_iff_toInt_le.mpr (by omega)
        simp [inB, h4, h5]
      rw [this] at h; cases h
theorem inB_2 {x1 : Int32} (h : inB x1 2 = true) : ix x1 = 0 ∨ ix x1 = 1 := by
  have : ix x1 < 2 := by
    have h2 : (0 : Int32) ≤ x1 ∧ ix x1 < 2 := by simpa [inB] using h
    exact h2.2
  omega
theorem txP_none {ts : List (Nat × Nat × Nat × Txt)} {xx : (Nat → Option Nat) × (Nat → Option Nat) × Nat} {T : Nat → Option Txt} {I : Nat → Int32} {x : Int32} (hT : TR ts xx.1 T) (h : txt xx I x = none) : txP T I x = none := by
  unfold txt at h
  unfold txP
  by_cases h0 : x < 0
  · rw [if_pos h0]
  · rw [if_neg h0] at h ⊢
    by_cases h1 : I 23 ≤ x
    · rw [if_pos h1]
    · rw [if_neg h1] at h ⊢
      by_cases h2 : 8 ≤ x
      · rw [if_pos h2]
      · rw [if_neg h2] at h ⊢
        rcases hT (ix x) (ix_lt 8 (by decide) h0 h2) with g | ⟨ta, tb, tc, t, g1, g2, g3⟩
        · exact g.2
        · rw [g1] at h; cases h
theorem txP_some {ts : List (Nat × Nat × Nat × Txt)} {xx : (Nat → Option Nat) × (Nat → Option Nat) × Nat} {T : Nat → Option Txt} {I : Nat → Int32} {x : Int32} {ta : Nat} (hT : TR ts xx.1 T) (h : txt xx I x = some ta) : ∃ (tb tc : Nat) (t : Txt), (ta, tb, tc, t) ∈ ts ∧ txP T I x = some t := by
  unfold txt at h
  unfold txP
  by_cases h0 : x < 0
  · rw [if_pos h0] at h; cases h
  · rw [if_neg h0] at h ⊢
    by_cases h1 : I 23 ≤ x
    · rw [if_pos h1] at h; cases h
    · rw [if_neg h1] at h ⊢
      by_cases h2 : 8 ≤ x
      · rw [if_pos h2] at h; cases h
      · rw [if_neg h2] at h ⊢
        rcases hT (ix x) (ix_lt 8 (by decide) h0 h2) with g | ⟨tq, tb, tc, t, g1, g2, g3⟩
        · rw [g.1] at h; cases h
        · rw [g1] at h
          obtain rfl := Option.some.inj h
          exact ⟨tb, tc, t, g3, g2⟩
theorem LT_mid (cy : Nat → ClassId) (u v : List (Nat × Nat × Nat × Txt)) (ta tb tc : Nat) (t : Txt) (o0 o1 : Option ((Nat → Nat) × (Nat → Option Nat) × (Nat → Int32) × (Nat → Nat → Int32))) (w : va_W) : LT cy (u ++ (ta, tb, tc, t) :: v) o0 o1 ++ w = (imW cy o0 ++ (imW cy o1 ++ txW cy u)) ++ (TC cy ta tb tc t.1 t.2.1 t.2.2.1 t.2.2.2 ++ (txW cy v ++ w)) := by
  simp [LT, txW, txC, List.append_assoc]
theorem LT_end (cy : Nat → ClassId) (ts : List (Nat × Nat × Nat × Txt)) (ta tb tc nb nc : Nat) (fb fc : Nat → Int32) (o0 o1 : Option ((Nat → Nat) × (Nat → Option Nat) × (Nat → Int32) × (Nat → Nat → Int32))) (w : va_W) : LT cy (ts ++ [(ta, tb, tc, nb, nc, fb, fc)]) o0 o1 ++ w = LT cy ts o0 o1 ++ (TC cy ta tb tc nb nc fb fc ++ w) := by
  simp [LT, txW, txC, List.append_assoc]
theorem LT_mem {cy : Nat → ClassId} {ts : List (Nat × Nat × Nat × Txt)} {o0 o1 : Option ((Nat → Nat) × (Nat → Option Nat) × (Nat → Int32) × (Nat → Nat → Int32))} {w : va_W} {x : Nat × va_E} (h : x ∈ txW cy ts) : x ∈ LT cy ts o0 o1 ++ w :=
  List.mem_append_left _ (List.mem_append_right _ (List.mem_append_right _ h))
theorem TR_up {ts : List (Nat × Nat × Nat × Txt)} {x : Nat → Option Nat} {T : Nat → Option Txt} (hT : TR ts x T) (k ta tb tc : Nat) (t : Txt) : TR (ts ++ [(ta, tb, tc, t)]) (va_up x k (some ta)) (va_up T k (some t)) := by
  intro j hj
  by_cases hk : j = k
  · exact Or.inr ⟨ta, tb, tc, t, by simp [va_up, hk], by simp [va_up, hk], by simp⟩
  · rcases hT j hj with g | ⟨a1, a2, a3, a4, g1, g2, g3⟩
    · exact Or.inl ⟨by simp [va_up, hk, g.1], by simp [va_up, hk, g.2]⟩
    · exact Or.inr ⟨a1, a2, a3, a4, by simp [va_up, hk, g1], by simp [va_up, hk, g2], by simp [g3]⟩
section LCALLS
variable {p : Program} {l : Launch} {e : Env} {s : State} {m : MethodId} {args : Array Value} {below : List Frame} {meth : Method} {c : Code} {H : Heap} {locs : List Loc} {cells slots nL idx : Nat} {Q : State → Prop} {cc : ByteArray} {pc : Nat} {ls : Array Slot} {rest : List Value} {ret : Option FieldType} {R : Room} {own : String}
variable {D : va_G} {cy : Nat → ClassId} {P0 : Nat → Prop} {q z qi : Nat → Nat} {tl : va_W} {xx : (Nat → Option Nat) × (Nat → Option Nat) × Nat} {I I2 Ii : Nat → Int32} {J : Nat → Int64} {A A2 Ai : Nat → Nat → Int32} {B : Nat → Nat → Int64} {txi : Nat → Option Nat}
theorem w_rule {r kd : Int32} (C : Cx p s m args meth c cc nL own ret) (hI : CI D cy s P0 s.heap H locs q z tl xx I J A B) (hF : NX P0 s s.heap z) (hC : NC s) (hA : ∀ x, s.heap.size ≤ x → P0 x) (hs : sX7_rule I J A B = some (r, kd, I2, A2)) (w1 : Cond.methodLink own idx yX7_rule ∈ WT) (hR : 94 ≤ R.frames ∧ 8 + (3 + 11) + 60 * 93 ≤ R.locals ∧ cells + 3 ≤ R.cells ∧ slots + 850 ≤ R.slots) (hsz : ls.size = nL) (hW : (rest.map fun v => v.category).sum ≤ 8) (hd : decode cc pc = .ok (.invokevirtual idx, 3))
    (kk : ∀ (tn : va_W) (xx2 : (Nat → Option Nat) × (Nat → Option Nat) × Nat) (H1 : Heap) (locs1 : List Loc), ((¬ kd = 1 ∧ tn = [] ∧ xx2.1 = xx.1 ∧ xx2.2.1 = xx.2.1) ∨ (kd = 1 ∧ ∃ (ta tb tc : Nat) (fb fc : Nat → Int32), tn = TC cy ta tb tc (ix (I2 88 * 4)) (ix (I2 90)) fb fc ∧ (∀ j, j < ix (I2 88 * 4) → fb j = A2 87 j) ∧ (∀ j, j < ix (I2 90) → fc j = A2 89 j) ∧ xx2.1 = va_up xx.1 (ix (I2 23 - 1)) (some ta) ∧ xx2.2.1 = xx.2.1)) → CI D cy s P0 s.heap H1 locs1 q z (tn ++ tl) xx2 I2 J A2 B → W p l e R s m args below meth c H1 locs1 (cells + 3) (slots + 850) Q (F0 m (pc + 3) ls (.int r :: rest))) :
    W p l e R s m args below meth c H locs cells slots Q (F0 m pc ls (.ref (q 99) :: rest)) := by
  have hrv := rv_X7 hI
  obtain ⟨hK, hP, hD, hS, hSF⟩ := hI
  have hr := run_V (l := l) (e := e) (below := below) (H := H) (locs := locs) (cells := cells) (slots := slots) (R := R) (rm := rmN 93 3 850) (C := RX7) (b := q 99) (As := []) (rest := rest) C (kX7_rule l D cy P0 q z tl xx I J A B r kd I2 A2 hs) (wt_callB (rm := rmN 93 3 850) C w1 ini_X7 co_X7_rule rfl rfl hyX7_rule ⟨hR.1, hR.2.1⟩) im_X7_rule se_X7_rule
    ⟨fun a U g mk z => by
      obtain ⟨z0, z1, z2, z3, z4, z5, z6⟩ := z
      exact ⟨z0, va_K.moved (u := U) (U := U.calling g mk a) (Vm.Alike.refl U.vm) z1, z2, z3, NX.same (u := U) (U := U.calling g mk a) rfl z4, va_Nw.same (u := U) (U := U.calling g mk a) rfl rfl z5, z6⟩, hrv, fun U hU hW => ⟨rfl, va_K.moved hW.alike hK, by rw [hU]; exact hP, hD, by rw [hU]; exact NX.warm hW (hF.kept (fun a h1 h2 => hS.2.1 a h1 h2)), va_Nw.warmC hW hC, fun x hx => hA x (by rw [hU] at hx; exact Nat.le_trans hS.1 hx)⟩⟩ rfl hsz rfl hW hd ⟨hR.2.2.1, hR.2.2.2⟩
  intro T hT X
  obtain ⟨v0, st₀, t, T', L, h0, X', hL, e1, e2, ⟨⟨hv, tn, xx2, hcs, hP1, hD1⟩, hz, hk⟩, st⟩ := hr T hT X
  cases hv
  rw [h0] at hz hk
  obtain ⟨t2, a1, b1⟩ := kk tn xx2 T'.heap (locs ++ L) hcs ⟨hK, by rw [e1]; exact hP1, hD1, ⟨Nat.le_trans hS.1 (by rw [e1]; exact hz), fun x h1 h2 => by rw [e1, hk x (Nat.lt_of_lt_of_le h1 hS.1) h2]; exact hS.2.1 x h1 h2, fun x hx => by
      rcases List.mem_append.mp hx with h | h
      · exact hS.2.2 x h
      · exact hL x h⟩, hSF⟩ T' rfl X'
  exact ⟨t2, st t2 a1, b1⟩
theorem w_imgS {x1 : Int32} (C : Cx p s m args meth c cc nL own ret) (hI : CI D cy s P0 s.heap H locs q z (SW cy qi txi Ii Ai ++ tl) xx I J A B) (hk : inB x1 2 = true) (hx : xx.2.1 (ix x1) = some (qi 0)) (hok : bcOK I = true) (htx : ∀ i v, i < 8 → xx.1 i = some v → ∃ vs, (v, (.inr (6, vs) : va_E)) ∈ tl) (w1 : Cond.methodLink own idx yX7_image ∈ WT) (hR : 4 ≤ R.frames ∧ 8 + (3 + 11) + 60 * 3 ≤ R.locals ∧ cells ≤ R.cells ∧ slots ≤ R.slots) (hsz : ls.size = nL) (hW : (rest.map fun v => v.category).sum ≤ 8) (hd : decode cc pc = .ok (.invokevirtual idx, 3))
    (kk : ∀ (H1 : Heap) (locs1 : List Loc), CI D cy s P0 s.heap H1 locs1 q z (SW cy qi (bcT 8 txi xx.1) (bcI Ii I) (bcA Ai A I) ++ tl) xx (upd I 9 0) J A B → W p l e R s m args below meth c H1 locs1 cells slots Q (F0 m (pc + 3) ls (.int 0 :: rest))) :
    W p l e R s m args below meth c H locs cells slots Q (F0 m pc ls (.int x1 :: .ref (q 99) :: rest)) := by
  have hrv := rv_X7 hI
  obtain ⟨hK, hP, hD, hS, hSF⟩ := hI
  have hr := run_V (l := l) (e := e) (below := below) (H := H) (locs := locs) (cells := cells) (slots := slots) (R := R) (rm := rmL 3) (C := RX7) (b := q 99) (As := [.int x1]) (rest := rest) C (kX7_imageS l D cy P0 q z tl xx x1 I J A B qi txi Ii Ai hk hx hok htx) (wt_callB (rm := rmL 3) C w1 ini_X7 co_X7_image rfl rfl hyX7_image ⟨hR.1, hR.2.1⟩) im_X7_image se_X7_image
    ⟨fun a U g mk z => by
      obtain ⟨z0, z1, z2, z3, z4⟩ := z
      exact ⟨z0, va_K.moved (u := U) (U := U.calling g mk a) (Vm.Alike.refl U.vm) z1, z2, z3, SF.same (u := U) (U := U.calling g mk a) rfl z4⟩, hrv, fun U hU hW => ⟨rfl, va_K.moved hW.alike hK, by rw [hU]; exact hP, hD, by rw [hU]; exact SF.warm hW (hSF.kept (fun a h1 h2 => hS.2.1 a h1 h2))⟩⟩ rfl hsz rfl hW hd ⟨hR.2.2.1, hR.2.2.2⟩
  intro T hT X
  obtain ⟨v0, st₀, t, T', L, h0, X', hL, e1, e2, ⟨⟨hv, hP1, hD1⟩, hz, hk⟩, st⟩ := hr T hT X
  cases hv
  rw [h0] at hz hk
  obtain ⟨t2, a1, b1⟩ := kk T'.heap (locs ++ L) ⟨hK, by rw [e1]; exact hP1, hD1, ⟨Nat.le_trans hS.1 (by rw [e1]; exact hz), fun x h1 h2 => by rw [e1, hk x (Nat.lt_of_lt_of_le h1 hS.1) h2]; exact hS.2.1 x h1 h2, fun x hx => by
      rcases List.mem_append.mp hx with h | h
      · exact hS.2.2 x h
      · exact hL x h⟩, hSF⟩ T' rfl X'
  exact ⟨t2, st t2 a1, b1⟩
theorem w_imgN {x1 : Int32} (C : Cx p s m args meth c cc nL own ret) (hI : CI D cy s P0 s.heap H locs q z tl xx I J A B) (hF : NX P0 s s.heap z) (hA : ∀ x, s.heap.size ≤ x → P0 x) (hk : inB x1 2 = true) (hx : xx.2.1 (ix x1) = none) (hok : bcOK I = true) (htx : ∀ i v, i < 8 → xx.1 i = some v → ∃ vs, (v, (.inr (6, vs) : va_E)) ∈ tl) (w1 : Cond.methodLink own idx yX7_image ∈ WT) (hR : 4 ≤ R.frames ∧ 8 + (3 + 11) + 60 * 3 ≤ R.locals ∧ cells + 19 ≤ R.cells ∧ slots + 1670 ≤ R.slots) (hsz : ls.size = nL) (hW : (rest.map fun v => v.category).sum ≤ 8) (hd : decode cc pc = .ok (.invokevirtual idx, 3))
    (kk : ∀ (qi : Nat → Nat) (H1 : Heap) (locs1 : List Loc), CI D cy s P0 s.heap H1 locs1 q z (SW cy qi (bcT 8 (fun _ => none) xx.1) (bcI SI0 I) (bcA SA0 A I) ++ tl) (xx.1, va_up xx.2.1 (ix x1) (some (qi 0)), xx.2.2) (upd I 9 0) J A B → W p l e R s m args below meth c H1 locs1 (cells + 19) (slots + 1670) Q (F0 m (pc + 3) ls (.int 0 :: rest))) :
    W p l e R s m args below meth c H locs cells slots Q (F0 m pc ls (.int x1 :: .ref (q 99) :: rest)) := by
  have hrv := rv_X7 hI
  obtain ⟨hK, hP, hD, hS, hSF⟩ := hI
  have hr := run_V (l := l) (e := e) (below := below) (H := H) (locs := locs) (cells := cells) (slots := slots) (R := R) (rm := rmN 3 19 1670) (C := RX7) (b := q 99) (As := [.int x1]) (rest := rest) C (kX7_imageN l D cy P0 q z tl xx x1 I J A B hk hx hok htx) (wt_callB (rm := rmN 3 19 1670) C w1 ini_X7 co_X7_image rfl rfl hyX7_image ⟨hR.1, hR.2.1⟩) im_X7_image se_X7_image
    ⟨fun a U g mk z => by
      obtain ⟨z0, z1, z2, z3, z4, z5⟩ := z
      exact ⟨z0, va_K.moved (u := U) (U := U.calling g mk a) (Vm.Alike.refl U.vm) z1, z2, z3, NX.same (u := U) (U := U.calling g mk a) rfl z4, z5⟩, hrv, fun U hU hW => ⟨rfl, va_K.moved hW.alike hK, by rw [hU]; exact hP, hD, by rw [hU]; exact NX.warm hW (hF.kept (fun a h1 h2 => hS.2.1 a h1 h2)), fun x hx => hA x (by rw [hU] at hx; exact Nat.le_trans hS.1 hx)⟩⟩ rfl hsz rfl hW hd ⟨hR.2.2.1, hR.2.2.2⟩
  intro T hT X
  obtain ⟨v0, st₀, t, T', L, h0, X', hL, e1, e2, ⟨⟨hv, qi, hP1, hD1⟩, hz, hk⟩, st⟩ := hr T hT X
  cases hv
  rw [h0] at hz hk
  obtain ⟨t2, a1, b1⟩ := kk qi T'.heap (locs ++ L) ⟨hK, by rw [e1]; exact hP1, hD1, ⟨Nat.le_trans hS.1 (by rw [e1]; exact hz), fun x h1 h2 => by rw [e1, hk x (Nat.lt_of_lt_of_le h1 hS.1) h2]; exact hS.2.1 x h1 h2, fun x hx => by
      rcases List.mem_append.mp hx with h | h
      · exact hS.2.2 x h
      · exact hL x h⟩, hSF⟩ T' rfl X'
  exact ⟨t2, st t2 a1, b1⟩
end LCALLS
section LSP
variable {p : Program} {l : Launch} {e : Env} {s : State} {m : MethodId} {args : Array Value} {below : List Frame} {meth : Method} {c : Code} {H : Heap} {locs : List Loc} {cells slots : Nat} {Q : State → Prop} {ls : Array Slot} {ret : Option FieldType} {R : Room} {b L i : Nat} {xs : Nat → Int32}
variable {Rel : RelT} {D : va_G} {cy : Nat → ClassId} {q z qm : Nat → Nat}

theorem lw_need (hp : PS_need Rel) (C : Cx p s m args meth c cL_law 4 RL ret) (hX : va_X b L xs s s.heap) (hb : b < s.heap.size) (hF : NX (PL s) s s.heap z) (hC : NC s) (hi : i + 6 ≤ L) (hL : L ≤ 3072) (hR : rml R cells slots) (hI : LI Rel D cy s H locs q z qm) (hl : lv_has ls 4 [(3, .int (nI i)), (0, .ref b), (1, .ref (q 99)), (2, .ref (mq qm 46))])
    (kk : ∀ (H : Heap) (locs : List Loc), LI Rel D cy s H locs q z qm → W p l e R s m args below meth c H locs (cells + 20) (slots + 2000) Q (F0 m 1421 ls [])) : W p l e R s m args below meth c H locs cells slots Q (F0 m 658 ls []) := by
  obtain ⟨xx, ts, o0, o1, T, M, I, J, A, B, I1, J1, A1, B1, hI, hT, h0, h1, hr⟩ := hI
  obtain ⟨hpN, hpS⟩ := hp (xs (i + 1)) (xs (i + 2)) (xs (i + 3)) _ _ _ _ _ _ _ _ _ _ hr
  refine lv_aload_n C.1 C.2.1 dL_law_658 rfl (lv_at hl 2 rfl) ?_
  refine lw_ld C hX hb hI.2.2.2.1 hl 1 (by decide) (by omega) hL dL_law_659 dL_law_660 dL_law_661 dL_law_662 dL_law_663 ?_
  refine lw_ld C hX hb hI.2.2.2.1 hl 2 (by decide) (by omega) hL dL_law_664 dL_law_665 dL_law_666 dL_law_667 dL_law_668 ?_
  refine lw_ld C hX hb hI.2.2.2.1 hl 3 (by decide) (by omega) hL dL_law_669 dL_law_670 dL_law_671 dL_law_672 dL_law_673 ?_
  cases htx : txt xx I (xs (i + 1)) with
  | none =>
    obtain ⟨r, I2, J2, A2, B2, I3, J3, A3, B3, h7, h8, hr2⟩ := hpN (txP_none hT htx)
    refine C_callR C hI (kX7_needN l D cy (PL s) q z _ _ _ _ _ _ _ _ _ _ _ _ _ _ htx h7) (rv_X7 hI) ml_L_71 im_X7_need se_X7_need ini_X7 co_X7_need hyX7_need rfl ⟨Nat.le_trans (by decide) hR.1, Nat.le_trans (by decide) hR.2.1, by have := hR.2.2.1; omega, by have := hR.2.2.2; omega⟩ hl.1 rfl (Nat.le_of_ble_eq_true rfl) dL_law_674 (fun H locs hI => ?_)
    refine lv_aload_n C.1 C.2.1 dL_law_677 rfl (lv_at hl 3 rfl) ?_
    refine lw_ld C hX hb hI.2.2.2.1 hl 1 (by decide) (by omega) hL dL_law_678 dL_law_679 dL_law_680 dL_law_681 dL_law_682 ?_
    refine lw_ld C hX hb hI.2.2.2.1 hl 2 (by decide) (by omega) hL dL_law_683 dL_law_684 dL_law_685 dL_law_686 dL_law_687 ?_
    refine lw_ld C hX hb hI.2.2.2.1 hl 3 (by decide) (by omega) hL dL_law_688 dL_law_689 dL_law_690 dL_law_691 dL_law_692 ?_
    refine M_callR C hI (kX8_need l D cy (mq qm) _ _ _ _ _ _ _ _ _ _ _ _ h8) ml_L_74 im_X8_need se_X8_need ini_X8 co_X8_need hyX8_need rfl ⟨Nat.le_trans (by decide) hR.1, Nat.le_trans (by decide) hR.2.1, by have := hR.2.2.1; omega, by have := hR.2.2.2; omega⟩ hl.1 rfl (Nat.le_of_ble_eq_true rfl) dL_law_693 (fun H locs hI => ?_)
    refine lv_icmp_eq (tgt := 1421) C.1 C.2.1 dL_law_696 (by decide) (fun cn => ?_) (fun cn => absurd rfl cn)
    exact W.widen (Nat.le_add_right _ _) (Nat.le_add_right _ _) (kk H locs ⟨xx, ts, o0, o1, T, M, _, _, _, _, _, _, _, _, hI, hT, h0, h1, hr2⟩)
  | some ta =>
    obtain ⟨tb, tc, t, hm, hx⟩ := txP_some hT htx
    obtain ⟨r, I2, J2, A2, B2, I3, J3, A3, B3, h7, h8, hr2⟩ := hpS t hx
    obtain ⟨u, v, eu⟩ := List.append_of_mem hm
    have hI := hI
    rw [eu, LT_mid] at hI
    have hI := CI_swap hI
    refine C_callR C hI (kX7_needS l D cy (PL s) q z _ _ ta tb tc _ _ _ _ _ _ _ _ _ _ _ _ _ _ _ _ htx h7) (rv_X7 hI) ml_L_71 im_X7_need se_X7_need ini_X7 co_X7_need hyX7_need rfl ⟨Nat.le_trans (by decide) hR.1, Nat.le_trans (by decide) hR.2.1, by have := hR.2.2.1; omega, by have := hR.2.2.2; omega⟩ hl.1 rfl (Nat.le_of_ble_eq_true rfl) dL_law_674 (fun H locs hI => ?_)
    have hI := CI_swap hI
    rw [← LT_mid, ← eu] at hI
    refine lv_aload_n C.1 C.2.1 dL_law_677 rfl (lv_at hl 3 rfl) ?_
    refine lw_ld C hX hb hI.2.2.2.1 hl 1 (by decide) (by omega) hL dL_law_678 dL_law_679 dL_law_680 dL_law_681 dL_law_682 ?_
    refine lw_ld C hX hb hI.2.2.2.1 hl 2 (by decide) (by omega) hL dL_law_683 dL_law_684 dL_law_685 dL_law_686 dL_law_687 ?_
    refine lw_ld C hX hb hI.2.2.2.1 hl 3 (by decide) (by omega) hL dL_law_688 dL_law_689 dL_law_690 dL_law_691 dL_law_692 ?_
    refine M_callR C hI (kX8_need l D cy (mq qm) _ _ _ _ _ _ _ _ _ _ _ _ h8) ml_L_74 im_X8_need se_X8_need ini_X8 co_X8_need hyX8_need rfl ⟨Nat.le_trans (by decide) hR.1, Nat.le_trans (by decide) hR.2.1, by have := hR.2.2.1; omega, by have := hR.2.2.2; omega⟩ hl.1 rfl (Nat.le_of_ble_eq_true rfl) dL_law_693 (fun H locs hI => ?_)
    refine lv_icmp_eq (tgt := 1421) C.1 C.2.1 dL_law_696 (by decide) (fun cn => ?_) (fun cn => absurd rfl cn)
    exact W.widen (Nat.le_add_right _ _) (Nat.le_add_right _ _) (kk H locs ⟨xx, ts, o0, o1, T, M, _, _, _, _, _, _, _, _, hI, hT, h0, h1, hr2⟩)
theorem lw_step (hp : PS_step Rel) (C : Cx p s m args meth c cL_law 4 RL ret) (hX : va_X b L xs s s.heap) (hb : b < s.heap.size) (hF : NX (PL s) s s.heap z) (hC : NC s) (hi : i + 6 ≤ L) (hL : L ≤ 3072) (hR : rml R cells slots) (hI : LI Rel D cy s H locs q z qm) (hl : lv_has ls 4 [(3, .int (nI i)), (0, .ref b), (1, .ref (q 99)), (2, .ref (mq qm 46))])
    (kk : ∀ (H : Heap) (locs : List Loc), LI Rel D cy s H locs q z qm → W p l e R s m args below meth c H locs (cells + 20) (slots + 2000) Q (F0 m 1421 ls [])) : W p l e R s m args below meth c H locs cells slots Q (F0 m 701 ls []) := by
  obtain ⟨xx, ts, o0, o1, T, M, I, J, A, B, I1, J1, A1, B1, hI, hT, h0, h1, hr⟩ := hI
  obtain ⟨hpN, hpS⟩ := hp (xs (i + 1)) (xs (i + 2)) (xs (i + 3)) (xs (i + 4)) (xs (i + 5)) _ _ _ _ _ _ _ _ _ _ hr
  refine lv_aload_n C.1 C.2.1 dL_law_701 rfl (lv_at hl 2 rfl) ?_
  refine lw_ld C hX hb hI.2.2.2.1 hl 1 (by decide) (by omega) hL dL_law_702 dL_law_703 dL_law_704 dL_law_705 dL_law_706 ?_
  refine lw_ld C hX hb hI.2.2.2.1 hl 2 (by decide) (by omega) hL dL_law_707 dL_law_708 dL_law_709 dL_law_710 dL_law_711 ?_
  refine lw_ld C hX hb hI.2.2.2.1 hl 3 (by decide) (by omega) hL dL_law_712 dL_law_713 dL_law_714 dL_law_715 dL_law_716 ?_
  refine lw_ld C hX hb hI.2.2.2.1 hl 4 (by decide) (by omega) hL dL_law_717 dL_law_718 dL_law_719 dL_law_720 dL_law_721 ?_
  refine lw_ld C hX hb hI.2.2.2.1 hl 5 (by decide) (by omega) hL dL_law_722 dL_law_723 dL_law_724 dL_law_725 dL_law_726 ?_
  cases htx : txt xx I (xs (i + 5)) with
  | none =>
    obtain ⟨r, I2, J2, A2, B2, I3, J3, A3, B3, h7, h8, hr2⟩ := hpN (txP_none hT htx)
    refine C_callR C hI (kX7_stepN l D cy (PL s) q z _ _ _ _ _ _ _ _ _ _ _ _ _ _ _ _ htx h7) (rv_X7 hI) ml_L_75 im_X7_step se_X7_step ini_X7 co_X7_step hyX7_step rfl ⟨Nat.le_trans (by decide) hR.1, Nat.le_trans (by decide) hR.2.1, by have := hR.2.2.1; omega, by have := hR.2.2.2; omega⟩ hl.1 rfl (Nat.le_of_ble_eq_true rfl) dL_law_727 (fun H locs hI => ?_)
    refine lv_aload_n C.1 C.2.1 dL_law_730 rfl (lv_at hl 3 rfl) ?_
    refine lw_ld C hX hb hI.2.2.2.1 hl 1 (by decide) (by omega) hL dL_law_731 dL_law_732 dL_law_733 dL_law_734 dL_law_735 ?_
    refine lw_ld C hX hb hI.2.2.2.1 hl 2 (by decide) (by omega) hL dL_law_736 dL_law_737 dL_law_738 dL_law_739 dL_law_740 ?_
    refine lw_ld C hX hb hI.2.2.2.1 hl 3 (by decide) (by omega) hL dL_law_741 dL_law_742 dL_law_743 dL_law_744 dL_law_745 ?_
    refine lw_ld C hX hb hI.2.2.2.1 hl 4 (by decide) (by omega) hL dL_law_746 dL_law_747 dL_law_748 dL_law_749 dL_law_750 ?_
    refine lw_ld C hX hb hI.2.2.2.1 hl 5 (by decide) (by omega) hL dL_law_751 dL_law_752 dL_law_753 dL_law_754 dL_law_755 ?_
    refine M_callR C hI (kX8_step l D cy (mq qm) _ _ _ _ _ _ _ _ _ _ _ _ _ _ h8) ml_L_78 im_X8_step se_X8_step ini_X8 co_X8_step hyX8_step rfl ⟨Nat.le_trans (by decide) hR.1, Nat.le_trans (by decide) hR.2.1, by have := hR.2.2.1; omega, by have := hR.2.2.2; omega⟩ hl.1 rfl (Nat.le_of_ble_eq_true rfl) dL_law_756 (fun H locs hI => ?_)
    refine lv_icmp_eq (tgt := 1421) C.1 C.2.1 dL_law_759 (by decide) (fun cn => ?_) (fun cn => absurd rfl cn)
    exact W.widen (Nat.le_add_right _ _) (Nat.le_add_right _ _) (kk H locs ⟨xx, ts, o0, o1, T, M, _, _, _, _, _, _, _, _, hI, hT, h0, h1, hr2⟩)
  | some ta =>
    obtain ⟨tb, tc, t, hm, hx⟩ := txP_some hT htx
    obtain ⟨r, I2, J2, A2, B2, I3, J3, A3, B3, h7, h8, hr2⟩ := hpS t hx
    obtain ⟨u, v, eu⟩ := List.append_of_mem hm
    have hI := hI
    rw [eu, LT_mid] at hI
    have hI := CI_swap hI
    refine C_callR C hI (kX7_stepS l D cy (PL s) q z _ _ ta tb tc _ _ _ _ _ _ _ _ _ _ _ _ _ _ _ _ _ _ htx h7) (rv_X7 hI) ml_L_75 im_X7_step se_X7_step ini_X7 co_X7_step hyX7_step rfl ⟨Nat.le_trans (by decide) hR.1, Nat.le_trans (by decide) hR.2.1, by have := hR.2.2.1; omega, by have := hR.2.2.2; omega⟩ hl.1 rfl (Nat.le_of_ble_eq_true rfl) dL_law_727 (fun H locs hI => ?_)
    have hI := CI_swap hI
    rw [← LT_mid, ← eu] at hI
    refine lv_aload_n C.1 C.2.1 dL_law_730 rfl (lv_at hl 3 rfl) ?_
    refine lw_ld C hX hb hI.2.2.2.1 hl 1 (by decide) (by omega) hL dL_law_731 dL_law_732 dL_law_733 dL_law_734 dL_law_735 ?_
    refine lw_ld C hX hb hI.2.2.2.1 hl 2 (by decide) (by omega) hL dL_law_736 dL_law_737 dL_law_738 dL_law_739 dL_law_740 ?_
    refine lw_ld C hX hb hI.2.2.2.1 hl 3 (by decide) (by omega) hL dL_law_741 dL_law_742 dL_law_743 dL_law_744 dL_law_745 ?_
    refine lw_ld C hX hb hI.2.2.2.1 hl 4 (by decide) (by omega) hL dL_law_746 dL_law_747 dL_law_748 dL_law_749 dL_law_750 ?_
    refine lw_ld C hX hb hI.2.2.2.1 hl 5 (by decide) (by omega) hL dL_law_751 dL_law_752 dL_law_753 dL_law_754 dL_law_755 ?_
    refine M_callR C hI (kX8_step l D cy (mq qm) _ _ _ _ _ _ _ _ _ _ _ _ _ _ h8) ml_L_78 im_X8_step se_X8_step ini_X8 co_X8_step hyX8_step rfl ⟨Nat.le_trans (by decide) hR.1, Nat.le_trans (by decide) hR.2.1, by have := hR.2.2.1; omega, by have := hR.2.2.2; omega⟩ hl.1 rfl (Nat.le_of_ble_eq_true rfl) dL_law_756 (fun H locs hI => ?_)
    refine lv_icmp_eq (tgt := 1421) C.1 C.2.1 dL_law_759 (by decide) (fun cn => ?_) (fun cn => absurd rfl cn)
    exact W.widen (Nat.le_add_right _ _) (Nat.le_add_right _ _) (kk H locs ⟨xx, ts, o0, o1, T, M, _, _, _, _, _, _, _, _, hI, hT, h0, h1, hr2⟩)
theorem lw_first (hp : PS_first Rel) (C : Cx p s m args meth c cL_law 4 RL ret) (hX : va_X b L xs s s.heap) (hb : b < s.heap.size) (hF : NX (PL s) s s.heap z) (hC : NC s) (hi : i + 6 ≤ L) (hL : L ≤ 3072) (hR : rml R cells slots) (hI : LI Rel D cy s H locs q z qm) (hl : lv_has ls 4 [(3, .int (nI i)), (0, .ref b), (1, .ref (q 99)), (2, .ref (mq qm 46))])
    (kk : ∀ (H : Heap) (locs : List Loc), LI Rel D cy s H locs q z qm → W p l e R s m args below meth c H locs (cells + 20) (slots + 2000) Q (F0 m 1421 ls [])) : W p l e R s m args below meth c H locs cells slots Q (F0 m 1316 ls []) := by
  obtain ⟨xx, ts, o0, o1, T, M, I, J, A, B, I1, J1, A1, B1, hI, hT, h0, h1, hr⟩ := hI
  obtain ⟨hpN, hpS⟩ := hp (xs (i + 1)) _ _ _ _ _ _ _ _ _ _ hr
  refine lv_aload_n C.1 C.2.1 dL_law_1316 rfl (lv_at hl 2 rfl) ?_
  refine lw_ld C hX hb hI.2.2.2.1 hl 1 (by decide) (by omega) hL dL_law_1317 dL_law_1318 dL_law_1319 dL_law_1320 dL_law_1321 ?_
  cases htx : txt xx I (xs (i + 1)) with
  | none =>
    obtain ⟨r, I2, J2, A2, B2, I3, J3, A3, B3, h7, h8, hr2⟩ := hpN (txP_none hT htx)
    refine C_callR C hI (kX7_firstN l D cy (PL s) q z _ _ _ _ _ _ _ _ _ _ _ _ htx h7) (rv_X7 hI) ml_L_161 im_X7_first se_X7_first ini_X7 co_X7_first hyX7_first rfl ⟨Nat.le_trans (by decide) hR.1, Nat.le_trans (by decide) hR.2.1, by have := hR.2.2.1; omega, by have := hR.2.2.2; omega⟩ hl.1 rfl (Nat.le_of_ble_eq_true rfl) dL_law_1322 (fun H locs hI => ?_)
    refine lv_aload_n C.1 C.2.1 dL_law_1325 rfl (lv_at hl 3 rfl) ?_
    refine lw_ld C hX hb hI.2.2.2.1 hl 1 (by decide) (by omega) hL dL_law_1326 dL_law_1327 dL_law_1328 dL_law_1329 dL_law_1330 ?_
    refine M_callR C hI (kX8_first l D cy (mq qm) _ _ _ _ _ _ _ _ _ _ h8) ml_L_164 im_X8_first se_X8_first ini_X8 co_X8_first hyX8_first rfl ⟨Nat.le_trans (by decide) hR.1, Nat.le_trans (by decide) hR.2.1, by have := hR.2.2.1; omega, by have := hR.2.2.2; omega⟩ hl.1 rfl (Nat.le_of_ble_eq_true rfl) dL_law_1331 (fun H locs hI => ?_)
    refine lv_icmp_eq (tgt := 1421) C.1 C.2.1 dL_law_1334 (by decide) (fun cn => ?_) (fun cn => absurd rfl cn)
    exact W.widen (Nat.le_add_right _ _) (Nat.le_add_right _ _) (kk H locs ⟨xx, ts, o0, o1, T, M, _, _, _, _, _, _, _, _, hI, hT, h0, h1, hr2⟩)
  | some ta =>
    obtain ⟨tb, tc, t, hm, hx⟩ := txP_some hT htx
    obtain ⟨r, I2, J2, A2, B2, I3, J3, A3, B3, h7, h8, hr2⟩ := hpS t hx
    obtain ⟨u, v, eu⟩ := List.append_of_mem hm
    have hI := hI
    rw [eu, LT_mid] at hI
    have hI := CI_swap hI
    refine C_callR C hI (kX7_firstS l D cy (PL s) q z _ _ ta tb tc _ _ _ _ _ _ _ _ _ _ _ _ _ _ htx h7) (rv_X7 hI) ml_L_161 im_X7_first se_X7_first ini_X7 co_X7_first hyX7_first rfl ⟨Nat.le_trans (by decide) hR.1, Nat.le_trans (by decide) hR.2.1, by have := hR.2.2.1; omega, by have := hR.2.2.2; omega⟩ hl.1 rfl (Nat.le_of_ble_eq_true rfl) dL_law_1322 (fun H locs hI => ?_)
    have hI := CI_swap hI
    rw [← LT_mid, ← eu] at hI
    refine lv_aload_n C.1 C.2.1 dL_law_1325 rfl (lv_at hl 3 rfl) ?_
    refine lw_ld C hX hb hI.2.2.2.1 hl 1 (by decide) (by omega) hL dL_law_1326 dL_law_1327 dL_law_1328 dL_law_1329 dL_law_1330 ?_
    refine M_callR C hI (kX8_first l D cy (mq qm) _ _ _ _ _ _ _ _ _ _ h8) ml_L_164 im_X8_first se_X8_first ini_X8 co_X8_first hyX8_first rfl ⟨Nat.le_trans (by decide) hR.1, Nat.le_trans (by decide) hR.2.1, by have := hR.2.2.1; omega, by have := hR.2.2.2; omega⟩ hl.1 rfl (Nat.le_of_ble_eq_true rfl) dL_law_1331 (fun H locs hI => ?_)
    refine lv_icmp_eq (tgt := 1421) C.1 C.2.1 dL_law_1334 (by decide) (fun cn => ?_) (fun cn => absurd rfl cn)
    exact W.widen (Nat.le_add_right _ _) (Nat.le_add_right _ _) (kk H locs ⟨xx, ts, o0, o1, T, M, _, _, _, _, _, _, _, _, hI, hT, h0, h1, hr2⟩)
theorem lw_rule (hp : PS_rule Rel) (C : Cx p s m args meth c cL_law 4 RL ret) (hX : va_X b L xs s s.heap) (hb : b < s.heap.size) (hF : NX (PL s) s s.heap z) (hC : NC s) (hi : i + 6 ≤ L) (hL : L ≤ 3072) (hR : rml R cells slots) (hI : LI Rel D cy s H locs q z qm) (hl : lv_has ls 4 [(3, .int (nI i)), (0, .ref b), (1, .ref (q 99)), (2, .ref (mq qm 46))])
    (kk : ∀ (H : Heap) (locs : List Loc), LI Rel D cy s H locs q z qm → W p l e R s m args below meth c H locs (cells + 20) (slots + 2000) Q (F0 m 1421 ls [])) : W p l e R s m args below meth c H locs cells slots Q (F0 m 632 ls []) := by
  obtain ⟨xx, ts, o0, o1, T, M, I, J, A, B, I1, J1, A1, B1, hI, hT, h0, h1, hr⟩ := hI
  obtain ⟨r, kd, I2, A2, I3, A3, h7, h8, hrN, hrS⟩ := hp _ _ _ _ _ _ _ _ _ _ hr
  refine lv_aload_n C.1 C.2.1 dL_law_632 rfl (lv_at hl 2 rfl) ?_
  refine w_rule C hI hF hC (fun x h => h) h7 ml_L_62 ⟨Nat.le_trans (by decide) hR.1, Nat.le_trans (by decide) hR.2.1, by have := hR.2.2.1; omega, by have := hR.2.2.2; omega⟩ hl.1 (Nat.le_of_ble_eq_true rfl) dL_law_633 (fun tn xx2 H locs hcs hI => ?_)
  rcases hcs with ⟨hkd, rfl, e1, e2⟩ | ⟨rfl, ta, tb, tc, fb, fc, rfl, hfb, hfc, e1, e2⟩
  · have hI : CI D cy s (PL s) s.heap H locs q z (LT cy ts o0 o1 ++ MW cy (mq qm) I1 J1 A1 B1) xx2 I2 J A2 B := hI
    refine lv_aload_n C.1 C.2.1 dL_law_636 rfl (lv_at hl 3 rfl) ?_
    refine M_callR C hI (kX8_rule l D cy (mq qm) _ _ _ _ _ _ _ h8) ml_L_66 im_X8_rule se_X8_rule ini_X8 co_X8_rule hyX8_rule rfl ⟨Nat.le_trans (by decide) hR.1, Nat.le_trans (by decide) hR.2.1, by have := hR.2.2.1; omega, by have := hR.2.2.2; omega⟩ hl.1 rfl (Nat.le_of_ble_eq_true rfl) dL_law_637 (fun H locs hI => ?_)
    refine lv_icmp_eq (tgt := 1421) C.1 C.2.1 dL_law_640 (by decide) (fun cn => ?_) (fun cn => absurd rfl cn)
    exact W.widen (by omega) (by omega) (kk H locs ⟨xx2, ts, o0, o1, T, M, _, _, _, _, _, _, _, _, hI, by rw [e1]; exact hT, by rw [e2]; exact h0, by rw [e2]; exact h1, hrN hkd⟩)
  · have hI := CI_swap hI
    rw [← LT_end] at hI
    refine lv_aload_n C.1 C.2.1 dL_law_636 rfl (lv_at hl 3 rfl) ?_
    refine M_callR C hI (kX8_rule l D cy (mq qm) _ _ _ _ _ _ _ h8) ml_L_66 im_X8_rule se_X8_rule ini_X8 co_X8_rule hyX8_rule rfl ⟨Nat.le_trans (by decide) hR.1, Nat.le_trans (by decide) hR.2.1, by have := hR.2.2.1; omega, by have := hR.2.2.2; omega⟩ hl.1 rfl (Nat.le_of_ble_eq_true rfl) dL_law_637 (fun H locs hI => ?_)
    refine lv_icmp_eq (tgt := 1421) C.1 C.2.1 dL_law_640 (by decide) (fun cn => ?_) (fun cn => absurd rfl cn)
    exact W.widen (by omega) (by omega) (kk H locs ⟨xx2, ts ++ [(ta, tb, tc, ix (I2 88 * 4), ix (I2 90), fb, fc)], o0, o1, _, M, _, _, _, _, _, _, _, _, hI, by rw [e1]; exact TR_up hT _ _ _ _ _, by rw [e2]; exact h0.more _, by rw [e2]; exact h1.more _, hrS rfl fb fc hfb hfc⟩)
theorem lw_image (hp : PS_image Rel) (C : Cx p s m args meth c cL_law 4 RL ret) (hX : va_X b L xs s s.heap) (hb : b < s.heap.size) (hF : NX (PL s) s s.heap z) (hC : NC s) (hi : i + 6 ≤ L) (hL : L ≤ 3072) (hR : rml R cells slots) (hI : LI Rel D cy s H locs q z qm) (hl : lv_has ls 4 [(3, .int (nI i)), (0, .ref b), (1, .ref (q 99)), (2, .ref (mq qm 46))])
    (kk : ∀ (H : Heap) (locs : List Loc), LI Rel D cy s H locs q z qm → W p l e R s m args below meth c H locs (cells + 20) (slots + 2000) Q (F0 m 1421 ls [])) : W p l e R s m args below meth c H locs cells slots Q (F0 m 1339 ls []) := by
  obtain ⟨xx, ts, o0, o1, T, M, I, J, A, B, I1, J1, A1, B1, hI, hT, h0, h1, hr⟩ := hI
  have hp := hp (xs (i + 1)) _ _ _ _ _ _ _ _ _ _ hr
  refine lv_aload_n C.1 C.2.1 dL_law_1339 rfl (lv_at hl 2 rfl) ?_
  refine lw_ld C hX hb hI.2.2.2.1 hl 1 (by decide) (by omega) hL dL_law_1340 dL_law_1341 dL_law_1342 dL_law_1343 dL_law_1344 ?_
  cases hk : inB (xs (i + 1)) 2 with
  | false =>
    obtain ⟨I3, A3, h8, hr2⟩ := hp.1 hk
    refine C_callR C hI (kX7_imageO l D cy (PL s) q z _ _ _ _ _ _ _ (wi_0 hk)) (rv_X7 hI) ml_L_165 im_X7_image se_X7_image ini_X7 co_X7_image hyX7_image rfl ⟨Nat.le_trans (by decide) hR.1, Nat.le_trans (by decide) hR.2.1, by have := hR.2.2.1; omega, by have := hR.2.2.2; omega⟩ hl.1 rfl (Nat.le_of_ble_eq_true rfl) dL_law_1345 (fun H locs hI => ?_)
    refine lv_aload_n C.1 C.2.1 dL_law_1348 rfl (lv_at hl 3 rfl) ?_
    refine lw_ld C hX hb hI.2.2.2.1 hl 1 (by decide) (by omega) hL dL_law_1349 dL_law_1350 dL_law_1351 dL_law_1352 dL_law_1353 ?_
    refine M_callR C hI (kX8_image l D cy (mq qm) _ _ _ _ _ _ _ _ h8) ml_L_168 im_X8_image se_X8_image ini_X8 co_X8_image hyX8_image rfl ⟨Nat.le_trans (by decide) hR.1, Nat.le_trans (by decide) hR.2.1, by have := hR.2.2.1; omega, by have := hR.2.2.2; omega⟩ hl.1 rfl (Nat.le_of_ble_eq_true rfl) dL_law_1354 (fun H locs hI => ?_)
    refine lv_icmp_eq (tgt := 1421) C.1 C.2.1 dL_law_1357 (by decide) (fun cn => ?_) (fun cn => absurd rfl cn)
    exact W.widen (Nat.le_add_right _ _) (Nat.le_add_right _ _) (kk H locs ⟨xx, ts, o0, o1, T, M, _, _, _, _, _, _, _, _, hI, hT, h0, h1, hr2⟩)
  | true =>
    rcases inB_2 hk with e0 | e0
    · rcases h0 with ⟨y1, y2, y3⟩ | ⟨qi, txi, Ii, Ai, Ti, y1, y2, y3, y4⟩
      · obtain ⟨hok, I3, A3, h8, hr2⟩ := hp.2 hk
        rw [e0, y3] at hr2
        subst y2
        refine w_imgN C hI hF (fun x h => h) hk (by rw [e0]; exact y1) hok (fun j v h1 h2 => by obtain ⟨vs, hm⟩ := hT.cell cy j v h1 h2; exact ⟨vs, LT_mem hm⟩) ml_L_165 ⟨Nat.le_trans (by decide) hR.1, Nat.le_trans (by decide) hR.2.1, by have := hR.2.2.1; omega, by have := hR.2.2.2; omega⟩ hl.1 (Nat.le_of_ble_eq_true rfl) dL_law_1345 (fun qi H locs hI => ?_)
        have hI : CI D cy s (PL s) s.heap H locs q z (LT cy ts (some (qi, bcT 8 (fun _ => none) xx.1, bcI SI0 I, bcA SA0 A I)) o1 ++ MW cy (mq qm) I1 J1 A1 B1) (xx.1, va_up xx.2.1 (ix (xs (i + 1))) (some (qi 0)), xx.2.2) (upd I 9 0) J A B := by simpa only [LT, imW, List.nil_append, List.append_assoc] using hI
        refine lv_aload_n C.1 C.2.1 dL_law_1348 rfl (lv_at hl 3 rfl) ?_
        refine lw_ld C hX hb hI.2.2.2.1 hl 1 (by decide) (by omega) hL dL_law_1349 dL_law_1350 dL_law_1351 dL_law_1352 dL_law_1353 ?_
        refine M_callR C hI (kX8_image l D cy (mq qm) _ _ _ _ _ _ _ _ h8) ml_L_168 im_X8_image se_X8_image ini_X8 co_X8_image hyX8_image rfl ⟨Nat.le_trans (by decide) hR.1, Nat.le_trans (by decide) hR.2.1, by have := hR.2.2.1; omega, by have := hR.2.2.2; omega⟩ hl.1 rfl (Nat.le_of_ble_eq_true rfl) dL_law_1354 (fun H locs hI => ?_)
        refine lv_icmp_eq (tgt := 1421) C.1 C.2.1 dL_law_1357 (by decide) (fun cn => ?_) (fun cn => absurd rfl cn)
        exact W.widen (by omega) (by omega) (kk H locs ⟨_, ts, _, _, T, _, _, _, _, _, _, _, _, _, hI, hT, Or.inr ⟨qi, _, _, _, bcX (fun _ => none) T, by simp [va_up, e0], rfl, by simp [va_up, img0], TR_bcT hT⟩, by simpa [va_up, e0] using h1, hr2⟩)
      · obtain ⟨hok, I3, A3, h8, hr2⟩ := hp.2 hk
        rw [e0, y3] at hr2
        subst y2
        have hI : CI D cy s (PL s) s.heap H locs q z (SW cy qi txi Ii Ai ++ (imW cy o1 ++ (txW cy ts ++ MW cy (mq qm) I1 J1 A1 B1))) xx I J A B := by simpa only [LT, imW, List.append_assoc] using hI
        refine w_imgS C hI hk (by rw [e0]; exact y1) hok (fun j v h1 h2 => by obtain ⟨vs, hm⟩ := hT.cell cy j v h1 h2; exact ⟨vs, List.mem_append_right _ (List.mem_append_left _ hm)⟩) ml_L_165 ⟨Nat.le_trans (by decide) hR.1, Nat.le_trans (by decide) hR.2.1, by have := hR.2.2.1; omega, by have := hR.2.2.2; omega⟩ hl.1 (Nat.le_of_ble_eq_true rfl) dL_law_1345 (fun H locs hI => ?_)
        have hI : CI D cy s (PL s) s.heap H locs q z (LT cy ts (some (qi, bcT 8 txi xx.1, bcI Ii I, bcA Ai A I)) o1 ++ MW cy (mq qm) I1 J1 A1 B1) xx (upd I 9 0) J A B := by simpa only [LT, imW, List.append_assoc] using hI
        refine lv_aload_n C.1 C.2.1 dL_law_1348 rfl (lv_at hl 3 rfl) ?_
        refine lw_ld C hX hb hI.2.2.2.1 hl 1 (by decide) (by omega) hL dL_law_1349 dL_law_1350 dL_law_1351 dL_law_1352 dL_law_1353 ?_
        refine M_callR C hI (kX8_image l D cy (mq qm) _ _ _ _ _ _ _ _ h8) ml_L_168 im_X8_image se_X8_image ini_X8 co_X8_image hyX8_image rfl ⟨Nat.le_trans (by decide) hR.1, Nat.le_trans (by decide) hR.2.1, by have := hR.2.2.1; omega, by have := hR.2.2.2; omega⟩ hl.1 rfl (Nat.le_of_ble_eq_true rfl) dL_law_1354 (fun H locs hI => ?_)
        refine lv_icmp_eq (tgt := 1421) C.1 C.2.1 dL_law_1357 (by decide) (fun cn => ?_) (fun cn => absurd rfl cn)
        exact W.widen (Nat.le_add_right _ _) (Nat.le_add_right _ _) (kk H locs ⟨xx, ts, _, _, T, _, _, _, _, _, _, _, _, _, hI, hT, Or.inr ⟨qi, _, _, _, bcX Ti T, y1, rfl, by simp [va_up], TR_bcT hT⟩, by simpa [va_up] using h1, hr2⟩)
    · rcases h1 with ⟨y1, y2, y3⟩ | ⟨qi, txi, Ii, Ai, Ti, y1, y2, y3, y4⟩
      · obtain ⟨hok, I3, A3, h8, hr2⟩ := hp.2 hk
        rw [e0, y3] at hr2
        subst y2
        refine w_imgN C hI hF (fun x h => h) hk (by rw [e0]; exact y1) hok (fun j v h1 h2 => by obtain ⟨vs, hm⟩ := hT.cell cy j v h1 h2; exact ⟨vs, LT_mem hm⟩) ml_L_165 ⟨Nat.le_trans (by decide) hR.1, Nat.le_trans (by decide) hR.2.1, by have := hR.2.2.1; omega, by have := hR.2.2.2; omega⟩ hl.1 (Nat.le_of_ble_eq_true rfl) dL_law_1345 (fun qi H locs hI => ?_)
        have hI := CI_swap (t1 := SW cy qi (bcT 8 (fun _ => none) xx.1) (bcI SI0 I) (bcA SA0 A I)) (t2 := imW cy o0) (t3 := txW cy ts ++ MW cy (mq qm) I1 J1 A1 B1) (by simpa only [LT, imW, List.nil_append, List.append_assoc] using hI)
        have hI : CI D cy s (PL s) s.heap H locs q z (LT cy ts o0 (some (qi, bcT 8 (fun _ => none) xx.1, bcI SI0 I, bcA SA0 A I)) ++ MW cy (mq qm) I1 J1 A1 B1) (xx.1, va_up xx.2.1 (ix (xs (i + 1))) (some (qi 0)), xx.2.2) (upd I 9 0) J A B := by simpa only [LT, imW, List.nil_append, List.append_assoc] using hI
        refine lv_aload_n C.1 C.2.1 dL_law_1348 rfl (lv_at hl 3 rfl) ?_
        refine lw_ld C hX hb hI.2.2.2.1 hl 1 (by decide) (by omega) hL dL_law_1349 dL_law_1350 dL_law_1351 dL_law_1352 dL_law_1353 ?_
        refine M_callR C hI (kX8_image l D cy (mq qm) _ _ _ _ _ _ _ _ h8) ml_L_168 im_X8_image se_X8_image ini_X8 co_X8_image hyX8_image rfl ⟨Nat.le_trans (by decide) hR.1, Nat.le_trans (by decide) hR.2.1, by have := hR.2.2.1; omega, by have := hR.2.2.2; omega⟩ hl.1 rfl (Nat.le_of_ble_eq_true rfl) dL_law_1354 (fun H locs hI => ?_)
        refine lv_icmp_eq (tgt := 1421) C.1 C.2.1 dL_law_1357 (by decide) (fun cn => ?_) (fun cn => absurd rfl cn)
        exact W.widen (by omega) (by omega) (kk H locs ⟨_, ts, _, _, T, _, _, _, _, _, _, _, _, _, hI, hT, by simpa [va_up, e0] using h0, Or.inr ⟨qi, _, _, _, bcX (fun _ => none) T, by simp [va_up, e0], rfl, by simp [va_up, img0], TR_bcT hT⟩, hr2⟩)
      · obtain ⟨hok, I3, A3, h8, hr2⟩ := hp.2 hk
        rw [e0, y3] at hr2
        subst y2
        have hI := CI_swap (t1 := imW cy o0) (t2 := SW cy qi txi Ii Ai) (t3 := txW cy ts ++ MW cy (mq qm) I1 J1 A1 B1) (by simpa only [LT, imW, List.append_assoc] using hI)
        refine w_imgS C hI hk (by rw [e0]; exact y1) hok (fun j v h1 h2 => by obtain ⟨vs, hm⟩ := hT.cell cy j v h1 h2; exact ⟨vs, List.mem_append_right _ (List.mem_append_left _ hm)⟩) ml_L_165 ⟨Nat.le_trans (by decide) hR.1, Nat.le_trans (by decide) hR.2.1, by have := hR.2.2.1; omega, by have := hR.2.2.2; omega⟩ hl.1 (Nat.le_of_ble_eq_true rfl) dL_law_1345 (fun H locs hI => ?_)
        have hI := CI_swap hI
        have hI : CI D cy s (PL s) s.heap H locs q z (LT cy ts o0 (some (qi, bcT 8 txi xx.1, bcI Ii I, bcA Ai A I)) ++ MW cy (mq qm) I1 J1 A1 B1) xx (upd I 9 0) J A B := by simpa only [LT, imW, List.append_assoc] using hI
        refine lv_aload_n C.1 C.2.1 dL_law_1348 rfl (lv_at hl 3 rfl) ?_
        refine lw_ld C hX hb hI.2.2.2.1 hl 1 (by decide) (by omega) hL dL_law_1349 dL_law_1350 dL_law_1351 dL_law_1352 dL_law_1353 ?_
        refine M_callR C hI (kX8_image l D cy (mq qm) _ _ _ _ _ _ _ _ h8) ml_L_168 im_X8_image se_X8_image ini_X8 co_X8_image hyX8_image rfl ⟨Nat.le_trans (by decide) hR.1, Nat.le_trans (by decide) hR.2.1, by have := hR.2.2.1; omega, by have := hR.2.2.2; omega⟩ hl.1 rfl (Nat.le_of_ble_eq_true rfl) dL_law_1354 (fun H locs hI => ?_)
        refine lv_icmp_eq (tgt := 1421) C.1 C.2.1 dL_law_1357 (by decide) (fun cn => ?_) (fun cn => absurd rfl cn)
        exact W.widen (Nat.le_add_right _ _) (Nat.le_add_right _ _) (kk H locs ⟨xx, ts, _, _, T, _, _, _, _, _, _, _, _, _, hI, hT, by simpa [va_up] using h0, Or.inr ⟨qi, _, _, _, bcX Ti T, y1, rfl, by simp [va_up], TR_bcT hT⟩, hr2⟩)
theorem lw_back (hp : PS_back Rel) (C : Cx p s m args meth c cL_law 4 RL ret) (hX : va_X b L xs s s.heap) (hb : b < s.heap.size) (hF : NX (PL s) s s.heap z) (hC : NC s) (hi : i + 6 ≤ L) (hL : L ≤ 3072) (hR : rml R cells slots) (hI : LI Rel D cy s H locs q z qm) (hl : lv_has ls 4 [(3, .int (nI i)), (0, .ref b), (1, .ref (q 99)), (2, .ref (mq qm 46))])
    (kk : ∀ (H : Heap) (locs : List Loc), LI Rel D cy s H locs q z qm → W p l e R s m args below meth c H locs (cells + 20) (slots + 2000) Q (F0 m 1421 ls [])) : W p l e R s m args below meth c H locs cells slots Q (F0 m 1362 ls []) := by
  obtain ⟨xx, ts, o0, o1, T, M, I, J, A, B, I1, J1, A1, B1, hI, hT, h0, h1, hr⟩ := hI
  have hp := hp (xs (i + 1)) _ _ _ _ _ _ _ _ _ _ hr
  refine lv_aload_n C.1 C.2.1 dL_law_1362 rfl (lv_at hl 2 rfl) ?_
  refine lw_ld C hX hb hI.2.2.2.1 hl 1 (by decide) (by omega) hL dL_law_1363 dL_law_1364 dL_law_1365 dL_law_1366 dL_law_1367 ?_
  cases hk : inB (xs (i + 1)) 2 with
  | false =>
    obtain ⟨I3, A3, h8, hr2⟩ := hp.1 hk
    refine C_callR C hI (kX7_backO l D cy (PL s) q z _ _ _ _ _ _ _ (wi_0 hk)) (rv_X7 hI) ml_L_169 im_X7_back se_X7_back ini_X7 co_X7_back hyX7_back rfl ⟨Nat.le_trans (by decide) hR.1, Nat.le_trans (by decide) hR.2.1, by have := hR.2.2.1; omega, by have := hR.2.2.2; omega⟩ hl.1 rfl (Nat.le_of_ble_eq_true rfl) dL_law_1368 (fun H locs hI => ?_)
    refine lv_aload_n C.1 C.2.1 dL_law_1371 rfl (lv_at hl 3 rfl) ?_
    refine lw_ld C hX hb hI.2.2.2.1 hl 1 (by decide) (by omega) hL dL_law_1372 dL_law_1373 dL_law_1374 dL_law_1375 dL_law_1376 ?_
    refine M_callR C hI (kX8_back l D cy (mq qm) _ _ _ _ _ _ _ _ h8) ml_L_172 im_X8_back se_X8_back ini_X8 co_X8_back hyX8_back rfl ⟨Nat.le_trans (by decide) hR.1, Nat.le_trans (by decide) hR.2.1, by have := hR.2.2.1; omega, by have := hR.2.2.2; omega⟩ hl.1 rfl (Nat.le_of_ble_eq_true rfl) dL_law_1377 (fun H locs hI => ?_)
    refine lv_icmp_eq (tgt := 1421) C.1 C.2.1 dL_law_1380 (by decide) (fun cn => ?_) (fun cn => absurd rfl cn)
    exact W.widen (Nat.le_add_right _ _) (Nat.le_add_right _ _) (kk H locs ⟨xx, ts, o0, o1, T, M, _, _, _, _, _, _, _, _, hI, hT, h0, h1, hr2⟩)
  | true =>
    rcases inB_2 hk with e0 | e0
    · rcases h0 with ⟨y1, y2, y3⟩ | ⟨qi, txi, Ii, Ai, Ti, y1, y2, y3, y4⟩
      · obtain ⟨I3, A3, h8, hr2⟩ := hp.2.1 hk (by rw [e0]; exact y3)
        refine C_callR C hI (kX7_backN l D cy (PL s) q z _ _ _ _ _ _ _ hk (by rw [e0]; exact y1)) (rv_X7 hI) ml_L_169 im_X7_back se_X7_back ini_X7 co_X7_back hyX7_back rfl ⟨Nat.le_trans (by decide) hR.1, Nat.le_trans (by decide) hR.2.1, by have := hR.2.2.1; omega, by have := hR.2.2.2; omega⟩ hl.1 rfl (Nat.le_of_ble_eq_true rfl) dL_law_1368 (fun H locs hI => ?_)
        refine lv_aload_n C.1 C.2.1 dL_law_1371 rfl (lv_at hl 3 rfl) ?_
        refine lw_ld C hX hb hI.2.2.2.1 hl 1 (by decide) (by omega) hL dL_law_1372 dL_law_1373 dL_law_1374 dL_law_1375 dL_law_1376 ?_
        refine M_callR C hI (kX8_back l D cy (mq qm) _ _ _ _ _ _ _ _ h8) ml_L_172 im_X8_back se_X8_back ini_X8 co_X8_back hyX8_back rfl ⟨Nat.le_trans (by decide) hR.1, Nat.le_trans (by decide) hR.2.1, by have := hR.2.2.1; omega, by have := hR.2.2.2; omega⟩ hl.1 rfl (Nat.le_of_ble_eq_true rfl) dL_law_1377 (fun H locs hI => ?_)
        refine lv_icmp_eq (tgt := 1421) C.1 C.2.1 dL_law_1380 (by decide) (fun cn => ?_) (fun cn => absurd rfl cn)
        exact W.widen (Nat.le_add_right _ _) (Nat.le_add_right _ _) (kk H locs ⟨xx, ts, o0, o1, T, M, _, _, _, _, _, _, _, _, hI, hT, Or.inl ⟨y1, y2, y3⟩, h1, hr2⟩)
      · obtain ⟨hok, I3, A3, h8, hr2⟩ := hp.2.2 hk (Ii, Ai, Ti) (by rw [e0]; exact y3)
        have y2s := y2
        subst y2
        have hI : CI D cy s (PL s) s.heap H locs q z (SW cy qi txi Ii Ai ++ (imW cy o1 ++ (txW cy ts ++ MW cy (mq qm) I1 J1 A1 B1))) xx I J A B := by simpa only [LT, imW, List.append_assoc] using hI
        refine C_callR C hI (kX7_backS l D cy (PL s) q z _ _ _ _ _ _ _ qi txi Ii Ai hk (by rw [e0]; exact y1) hok (fun j v h1 h2 => by obtain ⟨vs, hm⟩ := y4.cell cy j v h1 h2; exact ⟨vs, List.mem_append_right _ (List.mem_append_left _ hm)⟩)) (rv_X7 hI) ml_L_169 im_X7_back se_X7_back ini_X7 co_X7_back hyX7_back rfl ⟨Nat.le_trans (by decide) hR.1, Nat.le_trans (by decide) hR.2.1, by have := hR.2.2.1; omega, by have := hR.2.2.2; omega⟩ hl.1 rfl (Nat.le_of_ble_eq_true rfl) dL_law_1368 (fun H locs hI => ?_)
        have hI : CI D cy s (PL s) s.heap H locs q z (LT cy ts (some (qi, txi, Ii, Ai)) o1 ++ MW cy (mq qm) I1 J1 A1 B1) (bcT 8 xx.1 txi, xx.2) (upd (mrgI (bcI I Ii) I) 9 0) J (mrgA (bcA A Ai Ii) A) B := by simpa only [LT, imW, List.append_assoc] using hI
        refine lv_aload_n C.1 C.2.1 dL_law_1371 rfl (lv_at hl 3 rfl) ?_
        refine lw_ld C hX hb hI.2.2.2.1 hl 1 (by decide) (by omega) hL dL_law_1372 dL_law_1373 dL_law_1374 dL_law_1375 dL_law_1376 ?_
        refine M_callR C hI (kX8_back l D cy (mq qm) _ _ _ _ _ _ _ _ h8) ml_L_172 im_X8_back se_X8_back ini_X8 co_X8_back hyX8_back rfl ⟨Nat.le_trans (by decide) hR.1, Nat.le_trans (by decide) hR.2.1, by have := hR.2.2.1; omega, by have := hR.2.2.2; omega⟩ hl.1 rfl (Nat.le_of_ble_eq_true rfl) dL_law_1377 (fun H locs hI => ?_)
        refine lv_icmp_eq (tgt := 1421) C.1 C.2.1 dL_law_1380 (by decide) (fun cn => ?_) (fun cn => absurd rfl cn)
        exact W.widen (Nat.le_add_right _ _) (Nat.le_add_right _ _) (kk H locs ⟨_, ts, _, _, _, M, _, _, _, _, _, _, _, _, hI, TR_bcT y4, Or.inr ⟨qi, txi, Ii, Ai, Ti, y1, rfl, y3, y4⟩, h1, hr2⟩)
    · rcases h1 with ⟨y1, y2, y3⟩ | ⟨qi, txi, Ii, Ai, Ti, y1, y2, y3, y4⟩
      · obtain ⟨I3, A3, h8, hr2⟩ := hp.2.1 hk (by rw [e0]; exact y3)
        refine C_callR C hI (kX7_backN l D cy (PL s) q z _ _ _ _ _ _ _ hk (by rw [e0]; exact y1)) (rv_X7 hI) ml_L_169 im_X7_back se_X7_back ini_X7 co_X7_back hyX7_back rfl ⟨Nat.le_trans (by decide) hR.1, Nat.le_trans (by decide) hR.2.1, by have := hR.2.2.1; omega, by have := hR.2.2.2; omega⟩ hl.1 rfl (Nat.le_of_ble_eq_true rfl) dL_law_1368 (fun H locs hI => ?_)
        refine lv_aload_n C.1 C.2.1 dL_law_1371 rfl (lv_at hl 3 rfl) ?_
        refine lw_ld C hX hb hI.2.2.2.1 hl 1 (by decide) (by omega) hL dL_law_1372 dL_law_1373 dL_law_1374 dL_law_1375 dL_law_1376 ?_
        refine M_callR C hI (kX8_back l D cy (mq qm) _ _ _ _ _ _ _ _ h8) ml_L_172 im_X8_back se_X8_back ini_X8 co_X8_back hyX8_back rfl ⟨Nat.le_trans (by decide) hR.1, Nat.le_trans (by decide) hR.2.1, by have := hR.2.2.1; omega, by have := hR.2.2.2; omega⟩ hl.1 rfl (Nat.le_of_ble_eq_true rfl) dL_law_1377 (fun H locs hI => ?_)
        refine lv_icmp_eq (tgt := 1421) C.1 C.2.1 dL_law_1380 (by decide) (fun cn => ?_) (fun cn => absurd rfl cn)
        exact W.widen (Nat.le_add_right _ _) (Nat.le_add_right _ _) (kk H locs ⟨xx, ts, o0, o1, T, M, _, _, _, _, _, _, _, _, hI, hT, h0, Or.inl ⟨y1, y2, y3⟩, hr2⟩)
      · obtain ⟨hok, I3, A3, h8, hr2⟩ := hp.2.2 hk (Ii, Ai, Ti) (by rw [e0]; exact y3)
        have y2s := y2
        subst y2
        have hI := CI_swap (t1 := imW cy o0) (t2 := SW cy qi txi Ii Ai) (t3 := txW cy ts ++ MW cy (mq qm) I1 J1 A1 B1) (by simpa only [LT, imW, List.append_assoc] using hI)
        refine C_callR C hI (kX7_backS l D cy (PL s) q z _ _ _ _ _ _ _ qi txi Ii Ai hk (by rw [e0]; exact y1) hok (fun j v h1 h2 => by obtain ⟨vs, hm⟩ := y4.cell cy j v h1 h2; exact ⟨vs, List.mem_append_right _ (List.mem_append_left _ hm)⟩)) (rv_X7 hI) ml_L_169 im_X7_back se_X7_back ini_X7 co_X7_back hyX7_back rfl ⟨Nat.le_trans (by decide) hR.1, Nat.le_trans (by decide) hR.2.1, by have := hR.2.2.1; omega, by have := hR.2.2.2; omega⟩ hl.1 rfl (Nat.le_of_ble_eq_true rfl) dL_law_1368 (fun H locs hI => ?_)
        have hI := CI_swap hI
        have hI : CI D cy s (PL s) s.heap H locs q z (LT cy ts o0 (some (qi, txi, Ii, Ai)) ++ MW cy (mq qm) I1 J1 A1 B1) (bcT 8 xx.1 txi, xx.2) (upd (mrgI (bcI I Ii) I) 9 0) J (mrgA (bcA A Ai Ii) A) B := by simpa only [LT, imW, List.append_assoc] using hI
        refine lv_aload_n C.1 C.2.1 dL_law_1371 rfl (lv_at hl 3 rfl) ?_
        refine lw_ld C hX hb hI.2.2.2.1 hl 1 (by decide) (by omega) hL dL_law_1372 dL_law_1373 dL_law_1374 dL_law_1375 dL_law_1376 ?_
        refine M_callR C hI (kX8_back l D cy (mq qm) _ _ _ _ _ _ _ _ h8) ml_L_172 im_X8_back se_X8_back ini_X8 co_X8_back hyX8_back rfl ⟨Nat.le_trans (by decide) hR.1, Nat.le_trans (by decide) hR.2.1, by have := hR.2.2.1; omega, by have := hR.2.2.2; omega⟩ hl.1 rfl (Nat.le_of_ble_eq_true rfl) dL_law_1377 (fun H locs hI => ?_)
        refine lv_icmp_eq (tgt := 1421) C.1 C.2.1 dL_law_1380 (by decide) (fun cn => ?_) (fun cn => absurd rfl cn)
        exact W.widen (Nat.le_add_right _ _) (Nat.le_add_right _ _) (kk H locs ⟨_, ts, _, _, _, M, _, _, _, _, _, _, _, _, hI, TR_bcT y4, h0, Or.inr ⟨qi, txi, Ii, Ai, Ti, y1, rfl, y3, y4⟩, hr2⟩)
end LSP
