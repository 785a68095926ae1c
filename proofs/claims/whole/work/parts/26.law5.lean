
set_option maxRecDepth 100000 in
set_option maxHeartbeats 8000000 in
/-- the law's walk, out of the pure part -/
theorem whole_of {p : Program} {e : Env} {s : State} {m : MethodId} {below : List Frame} {meth : Method} {c : Code} (Rel : RelT) (hp : PURE Rel) (h0 : Rel CI0 CJ0 CA0 CB0 (fun _ => none) (fun _ => none) MI0 (fun _ => 0) MA0 (fun _ _ => 0)) (l : Launch) {b L : Nat} {xs : Nat → Int32} (hL : L ≤ 3072) (C0 : lw_At p s m meth c b L xs) : W p l e room_1 s m #[Value.ref b] below meth c s.heap [] 0 0 (lw_Z below #[Value.ref b] s) (entryFrame m ([Value.ref b] : List Value).toArray 4) := by
  obtain ⟨hx, hbc, hr, hml, hown, hts, hX, hb, hlocks, hgv⟩ := id C0
  obtain ⟨D, cy, z, hK, hF, hC⟩ := st_facts hts hgv
  have C : Cx p s m #[Value.ref b] meth c cL_law 4 RL ret := ⟨hx, hbc, hml, hown, fun w h => hts w (List.mem_filter.mp h).1, hr, hlocks⟩
  have hA : ∀ x : Nat, s.heap.size ≤ x → PL s x := fun _ h => h
  have hS : va_S (PL s) s.heap s.heap [] := va_S.rf
  have hP : va_P D vwCl ([] ++ []) s.heap := fun k q h => by simp at h
  have hD : va_D (PL s) ([] ++ [] : va_W) := ⟨fun i j p q h => by simp at h, fun k q h => by simp at h⟩
  have hl := lv_entry ([.ref b]) (n := 4) (Nat.le_of_ble_eq_true rfl)
  rw [lg_entry_eq]
  generalize (lg_sl ([.ref b]) ++ List.replicate (4 - (lg_sl ([.ref b])).length) Slot.unset).toArray = ls at hl ⊢
  have hl : lv_has ls 4 [(0, .ref b)] := hl
  refine w_new (a := []) (tl := []) (ci := 7) (fs := [.null, .null, .null, .null, .null, .null, .null, .int 0, .int 0, .int 0]) C inlX7 tyX7_ok cl_L_7 ins_X7 ini_X7 hK hP hD hS hA rfl (by decide) (by decide) (by decide) dL_law_0 (fun a H hP hD hS => ?_)
  refine lv_dup C.1 C.2.1 dL_law_3 rfl ?_
  refine N_call (pre := [(a, .inr (7, [.null, .null, .null, .null, .null, .null, .null, .int 0, .int 0, .int 0]))]) (tl := []) (As := []) C hK hP hD hS hF hA (kX7_init l D cy (PL s) z _ a) ml_L_9 im_X7_init ini_X7 co_X7_init hyX7_init rfl rfl ⟨by decide, by decide⟩ hl.1 rfl (Nat.le_of_ble_eq_true rfl) dL_law_4 ⟨by decide, by decide⟩ (fun H locs ws hw hP hD hS => ?_)
  obtain ⟨q, rt, rfl, rfl⟩ := hw
  refine lv_astore_n (lv' := [(1, .ref (q 99)), (0, .ref b)]) C.1 C.2.1 dL_law_7 rfl hl (by decide) rfl (fun ls hl => ?_)
  refine w_new (a := CW cy q (fun _ => none, fun _ => none, rt) CI0 CJ0 CA0 CB0) (tl := []) (ci := 8) (fs := [.int 0, .null, .null, .null, .null, .null, .null, .long 0, .long 0, .long 0, .long 0, .long 0, .long 0, .long 0, .null, .int 0, .int 0, .null, .null, .null, .int 0, .int 0, .null, .null, .null, .int 0, .int 0, .int 0, .int 0, .int 0, .int 0, .int 0, .null, .null, .long 0, .long 0, .int 0, .int 0, .int 0, .null, .null, .int 0, .null, .null, .null, .int 0]) C inlX8 tyX8_ok cl_L_10 ins_X8 ini_X8 hK hP hD hS hA rfl (by decide) (by decide) (by decide) dL_law_8 (fun a H hP hD hS => ?_)
  rw [List.append_assoc] at hP hD
  have hP := vaP_swap (a := []) (b := CW cy q (fun _ => none, fun _ => none, rt) CI0 CJ0 CA0 CB0) (c := [(a, .inr (8, [.int 0, .null, .null, .null, .null, .null, .null, .long 0, .long 0, .long 0, .long 0, .long 0, .long 0, .long 0, .null, .int 0, .int 0, .null, .null, .null, .int 0, .int 0, .null, .null, .null, .int 0, .int 0, .int 0, .int 0, .int 0, .int 0, .int 0, .null, .null, .long 0, .long 0, .int 0, .int 0, .int 0, .null, .null, .int 0, .null, .null, .null, .int 0]))]) (d := []) hP
  have hD := vaD_swap (a := []) (b := CW cy q (fun _ => none, fun _ => none, rt) CI0 CJ0 CA0 CB0) (c := [(a, .inr (8, [.int 0, .null, .null, .null, .null, .null, .null, .long 0, .long 0, .long 0, .long 0, .long 0, .long 0, .long 0, .null, .int 0, .int 0, .null, .null, .null, .int 0, .int 0, .null, .null, .null, .int 0, .int 0, .int 0, .int 0, .int 0, .int 0, .int 0, .null, .null, .long 0, .long 0, .int 0, .int 0, .int 0, .null, .null, .int 0, .null, .null, .null, .int 0]))]) (d := []) hD
  refine lv_dup C.1 C.2.1 dL_law_11 rfl ?_
  refine N_call (pre := [(a, .inr (8, [.int 0, .null, .null, .null, .null, .null, .null, .long 0, .long 0, .long 0, .long 0, .long 0, .long 0, .long 0, .null, .int 0, .int 0, .null, .null, .null, .int 0, .int 0, .null, .null, .null, .int 0, .int 0, .int 0, .int 0, .int 0, .int 0, .int 0, .null, .null, .long 0, .long 0, .int 0, .int 0, .int 0, .null, .null, .int 0, .null, .null, .null, .int 0]))]) (tl := CW cy q (fun _ => none, fun _ => none, rt) CI0 CJ0 CA0 CB0 ++ []) (As := []) C hK hP hD hS hF hA (kX8_init l D cy (PL s) z _ a) ml_L_12 im_X8_init ini_X8 co_X8_init hyX8_init rfl rfl ⟨by decide, by decide⟩ hl.1 rfl (Nat.le_of_ble_eq_true rfl) dL_law_12 ⟨by decide, by decide⟩ (fun H locs ws hw hP hD hS => ?_)
  obtain ⟨qm, rfl, rfl⟩ := hw
  have hP := vaP_swap (a := []) (b := MW cy qm MI0 (fun _ => 0) MA0 (fun _ _ => 0)) (c := CW cy q (fun _ => none, fun _ => none, rt) CI0 CJ0 CA0 CB0) (d := []) hP
  have hD := vaD_swap (a := []) (b := MW cy qm MI0 (fun _ => 0) MA0 (fun _ _ => 0)) (c := CW cy q (fun _ => none, fun _ => none, rt) CI0 CJ0 CA0 CB0) (d := []) hD
  rw [List.append_nil] at hP hD
  refine lv_astore_n (lv' := [(2, .ref (qm 46)), (1, .ref (q 99)), (0, .ref b)]) C.1 C.2.1 dL_law_15 rfl hl (by decide) rfl (fun ls hl => ?_)
  refine lv_iconst (v := 0) C.1 C.2.1 dL_law_16 (by decide) ?_
  refine lv_istore_n (lv' := [(3, .int 0), (2, .ref (qm 46)), (1, .ref (q 99)), (0, .ref b)]) C.1 C.2.1 dL_law_17 rfl hl (by decide) rfl (fun ls hl => ?_)
  have hI : LI Rel D cy s H locs q z qm := ⟨(fun _ => none, fun _ => none, rt), [], none, none, fun _ => none, fun _ => none, CI0, CJ0, CA0, CB0, MI0, fun _ => 0, MA0, fun _ _ => 0, ⟨hK, hP, hD, hS, hF.1⟩, fun j _ => Or.inl ⟨rfl, rfl⟩, Or.inl ⟨rfl, rfl, rfl⟩, Or.inl ⟨rfl, rfl, rfl⟩, h0⟩
  exact lw_loop hp C hlocks hX hb hF hC hL (L + 1) 0 H locs ls (by omega) (by omega) hI (lv_sub hl [0, 3, 2, 1] rfl)

