/-! THE CLAIM OUT OF ONE WALK OF THE LAW'S BODY. Your part is whole_start (and what it stands on); all else here is the same for every law, but numbers. -/
def R_law : String := "CornerWindsLaw"
def lw_P (b : Addr) (xs : List Int32) (args : Array Value) (s : State) : Prop := args = #[.ref b] ∧ s.IntsAt b xs ∧ xs.length ≤ 3072 ∧ (Jvm.Cond.and given_1 narrow_1).before args s = true
def lw_Q (_ : Array Value) (s : State) (o : Outcome) (t : State) : Prop := o = .returned (some (.int 1)) ∧ Framed s o t [] room_1.cells room_1.slots
def lw_Z (below : List Frame) (a : Array Value) (s : State) : State → Prop := fun t => ∃ o, t.status = .running ∧ Ended t below o ∧ lw_Q a s o t
/-- the law's own end, with 1 on the stack, nothing written that was there before, its room as the claim has it -/
theorem lw_ret {p : Program} {l : Launch} {e : Env} {s : State} {m : MethodId} {below : List Frame} {meth : Method} {c : Code} {b : Nat} (hx : p.tables.exec = Jvm.exec) (hb : c.code = code) (hr : meth.sig.returnType = ret) (hlocks : meth.locks = false) {pc : Nat} {H : Heap} {ls : Array Slot} (hdg : decode code pc = .ok (.ireturn, 1)) : W p l e room_1 s m #[Value.ref b] below meth c H [] room_1.cells room_1.slots (lw_Z below #[Value.ref b] s) (F0 m pc ls [.int 1]) := by
  intro T hT X
  obtain ⟨fs, hret, hrun, hended, hW, hframe⟩ := X.leave (v := some (.int 1)) (hlocks := hlocks) (fun h => by rw [hr] at h; cases h)
  have hmeth' : T.vm.method? m = some meth := X.method'
  refine ⟨T.setFrames fs, ?_, .returned (some (.int 1)), hrun, hended, rfl, ⟨_, rfl⟩, hW, hframe⟩
  jvm_step X.here [X.here.top, hx, hb, hdg, hmeth', hr, ret, narrow_b1]
  (try refine ⟨rfl, ?_⟩); (try refine ⟨rfl, ?_⟩)
  first | (intro acts; rw [hret _ acts rfl rfl rfl]) | rw [hret _ _ rfl rfl rfl]
  exact Steps.refl _
/-- what holds at the law's entry: the machine, the code, the tables' words (any of lw_tbl by 'hts w (by decide +kernel)'), the script of L ints xs at the cell b, what the Statement gives of the start (any of its parts by flat_of_before) -/
def lw_At (p : Program) (s : State) (m : MethodId) (meth : Method) (c : Code) (b L : Nat) (xs : Nat → Int32) : Prop :=
  p.tables.exec = Jvm.exec ∧ c.code = code ∧ meth.sig.returnType = ret ∧ c.maxLocals = 4 ∧ s.vm.findClass R_law = some m.cls ∧ (∀ w ∈ lw_tbl, w.before #[Value.ref b] s = true) ∧ va_X b L xs s s.heap ∧ b < s.heap.size ∧ meth.locks = false ∧ (Jvm.Cond.and given_1 narrow_1).before #[Value.ref b] s = true
abbrev FLs : List Cond := flatC (Cond.and given_1 narrow_1)
theorem fs_0 : ∀ j, j < 9 → (Cond.eq (.elem (.static "CornerWinds" "TERM_LEAST" "[I") (.int (Int32.ofNat j))) (.int (sv_0 j)) : Cond) ∈ FLs := by decide +kernel
theorem fs_1 : ∀ j, j < 9 → (Cond.eq (.elem (.static "CornerWinds" "TERM_MOST" "[I") (.int (Int32.ofNat j))) (.int (sv_1 j)) : Cond) ∈ FLs := by decide +kernel
theorem fs_2 : ∀ j, j < 9 → (Cond.eq (.elem (.static "CornerWinds" "TERM_FIRST" "[I") (.int (Int32.ofNat j))) (.int (sv_2 j)) : Cond) ∈ FLs := by decide +kernel
theorem fs_3 : ∀ j, j < 8 → (Cond.eq (.elem (.static "CornerWinds" "WAY_EAST" "[I") (.int (Int32.ofNat j))) (.int (sv_3 j)) : Cond) ∈ FLs := by decide +kernel
theorem fs_4 : ∀ j, j < 8 → (Cond.eq (.elem (.static "CornerWinds" "WAY_NORTH" "[I") (.int (Int32.ofNat j))) (.int (sv_4 j)) : Cond) ∈ FLs := by decide +kernel
theorem fs_5 : (FLs.drop 71).take 126 = (List.range 126).map (fun j => (Cond.eq (.elem (.field (.string "CornerWinds$Reader" 86) "java/lang/String" "value" "[B") (.int (Int32.ofNat j))) (.int (wby.getD j 0)) : Cond)) := by decide +kernel
theorem fs_5m {j : Nat} (h : j < 126) : (Cond.eq (.elem (.field (.string "CornerWinds$Reader" 86) "java/lang/String" "value" "[B") (.int (Int32.ofNat j))) (.int (wby.getD j 0)) : Cond) ∈ FLs := by
  have h1 : (Cond.eq (.elem (.field (.string "CornerWinds$Reader" 86) "java/lang/String" "value" "[B") (.int (Int32.ofNat j))) (.int (wby.getD j 0)) : Cond) ∈ (FLs.drop 71).take 126 := by
    rw [fs_5]; exact List.mem_map.mpr ⟨j, List.mem_range.mpr h, rfl⟩
  exact List.mem_of_mem_drop (List.mem_of_mem_take h1)
set_option maxRecDepth 100000 in
set_option maxHeartbeats 8000000 in
/-- what the Statement gives of the start, in our words -/
theorem st_facts {s : State} {b : Nat} (hts : ∀ w ∈ lw_tbl, w.before #[Value.ref b] s = true) (hgv : (Jvm.Cond.and given_1 narrow_1).before #[Value.ref b] s = true) : ∃ (D : va_G) (cy : Nat → ClassId) (z : Nat → Nat), va_K D vwCl (tys6 cy) s ∧ NX (PL s) s s.heap z ∧ NC s := by
  have hA : ∀ a : Nat, a < s.heap.size → ¬ PL s a := fun a h1 h2 => Nat.lt_irrefl _ (Nat.lt_of_lt_of_le h1 h2)
  have hw : ∀ w ∈ WT, w.before #[Value.ref b] s = true := fun w h => hts w (List.mem_filter.mp h).1
  have hf : ∀ c ∈ FLs, c.before #[Value.ref b] s = true := flat_of_before _ hgv
  obtain ⟨c0, i0, k0⟩ := u_known (C := RX0) (T := TX0) (N := 4) (n := 4) hw inlX0 (hw _ ins_X0)
  obtain ⟨c1, i1, k1⟩ := u_known (C := RX1) (T := TX1) (N := 18) (n := 18) hw inlX1 (hw _ ins_X1)
  obtain ⟨c2, i2, k2⟩ := u_known (C := RX2) (T := TX2) (N := 10) (n := 10) hw inlX2 (hw _ ins_X2)
  obtain ⟨c3, i3, k3⟩ := u_known (C := RX3) (T := TX3) (N := 11) (n := 11) hw inlX3 (hw _ ins_X3)
  obtain ⟨c4, i4, k4⟩ := u_known (C := RX4) (T := TX4) (N := 14) (n := 14) hw inlX4 (hw _ ins_X4)
  obtain ⟨c5, i5, k5⟩ := u_known (C := RX5) (T := TX5) (N := 3) (n := 3) hw inlX5 (hw _ ins_X5)
  obtain ⟨c6, i6, k6⟩ := u_known (C := RX6) (T := TX6) (N := 2) (n := 2) hw inlX6 (hw _ ins_X6)
  obtain ⟨c7, i7, k7⟩ := u_known (C := RX7) (T := TX7) (N := 10) (n := 10) hw inlX7 (hw _ ins_X7)
  obtain ⟨c8, i8, k8⟩ := u_known (C := RX8) (T := TX8) (N := 46) (n := 46) hw inlX8 (hw _ ins_X8)
  obtain ⟨y0, ky0, co0, p0, r0, t0⟩ := Cond.arrayClass_spec (hw _ arrayClass__byte)
  obtain ⟨y1, ky1, co1, p1, r1, t1⟩ := Cond.arrayClass_spec (hw _ arrayClass__int)
  obtain ⟨y2, ky2, co2, p2, r2, t2⟩ := Cond.arrayClass_spec (hw _ arrayClass__long)
  obtain ⟨y3, ky3, co3, p3, r3, t3⟩ := Cond.arrayClass_spec (hw _ arrayClass__boolean)
  obtain ⟨co4, y4, ky4, f4, -, r4, t4, p4⟩ := Cond.arrayOver_spec (hts (Cond.arrayOver (.object "CornerWinds$State")) (tbin_1 _ (List.mem_of_getElem? (i := 131) rfl)))
  obtain ⟨co5, y5, ky5, f5, -, r5, t5, p5⟩ := Cond.arrayOver_spec (hts (Cond.arrayOver (.object "CornerWinds$Text")) (tbin_1 _ (List.mem_of_getElem? (i := 53) rfl)))
  obtain ⟨s0, e0, v0⟩ := va_Tof (args := #[Value.ref b]) (s := s) (tm := .static "CornerWinds" "TERM_LEAST" "[I") (ty := .int) (N := 9) (f := fun j => .int (sv_0 j)) (A := PL s) (by decide) (hf _ (by decide +kernel)) (va_eqt (hf _ (by decide +kernel))) (fun j hj => va_eqt (hf _ (fs_0 j hj))) hA
  obtain ⟨s1, e1, v1⟩ := va_Tof (args := #[Value.ref b]) (s := s) (tm := .static "CornerWinds" "TERM_MOST" "[I") (ty := .int) (N := 9) (f := fun j => .int (sv_1 j)) (A := PL s) (by decide) (hf _ (by decide +kernel)) (va_eqt (hf _ (by decide +kernel))) (fun j hj => va_eqt (hf _ (fs_1 j hj))) hA
  obtain ⟨s2, e2, v2⟩ := va_Tof (args := #[Value.ref b]) (s := s) (tm := .static "CornerWinds" "TERM_FIRST" "[I") (ty := .int) (N := 9) (f := fun j => .int (sv_2 j)) (A := PL s) (by decide) (hf _ (by decide +kernel)) (va_eqt (hf _ (by decide +kernel))) (fun j hj => va_eqt (hf _ (fs_2 j hj))) hA
  obtain ⟨s3, e3, v3⟩ := va_Tof (args := #[Value.ref b]) (s := s) (tm := .static "CornerWinds" "WAY_EAST" "[I") (ty := .int) (N := 8) (f := fun j => .int (sv_3 j)) (A := PL s) (by decide) (hf _ (by decide +kernel)) (va_eqt (hf _ (by decide +kernel))) (fun j hj => va_eqt (hf _ (fs_3 j hj))) hA
  obtain ⟨s4, e4, v4⟩ := va_Tof (args := #[Value.ref b]) (s := s) (tm := .static "CornerWinds" "WAY_NORTH" "[I") (ty := .int) (N := 8) (f := fun j => .int (sv_4 j)) (A := PL s) (by decide) (hf _ (by decide +kernel)) (va_eqt (hf _ (by decide +kernel))) (fun j hj => va_eqt (hf _ (fs_4 j hj))) hA
  obtain ⟨adK, adV, vS, eS⟩ := vk_Sof (args := #[Value.ref b]) (s := s) (N := 1) (tm := fun _ => .string "CornerWinds$Reader" 86) (len := [126]) (byt := [wby]) (A := PL s) (fun i hi => by rw [show i = 0 by omega]; decide) (fun i _ => hf _ (by decide +kernel)) (fun i _ => hf _ (by decide +kernel)) (fun i _ => hf _ (by decide +kernel)) (fun i hi => by rw [show i = 0 by omega]; exact hf _ (by decide +kernel)) (fun i hi j hj => by rw [show i = 0 by omega] at hj ⊢; exact hf _ (fs_5m hj)) (fun i j h1 h2 h3 => absurd (show i = j by omega) h3) hA
  refine ⟨(fun k => if k = 0 then c0 else if k = 1 then c1 else if k = 2 then c2 else if k = 3 then c3 else if k = 4 then c4 else if k = 5 then c5 else if k = 6 then c6 else if k = 7 then c7 else c8, fun k => if k = 0 then i0 else if k = 1 then i1 else if k = 2 then i2 else if k = 3 then i3 else if k = 4 then i4 else if k = 5 then i5 else if k = 6 then i6 else if k = 7 then i7 else i8), fun k => if k = 0 then y0 else if k = 1 then y1 else if k = 2 then y2 else if k = 3 then y3 else if k = 4 then y4 else y5, fun k => if k = 0 then s0 else if k = 1 then s1 else if k = 2 then s2 else if k = 3 then s3 else if k = 4 then s4 else if k = 5 then adK 0 else adV 0, ⟨?_, ?_⟩, ⟨⟨?_, ?_⟩, ?_⟩, ?_⟩
  · intro k q hq
    match k, hq with
    | 0, hq => cases hq; exact k0
    | 1, hq => cases hq; exact k1
    | 2, hq => cases hq; exact k2
    | 3, hq => cases hq; exact k3
    | 4, hq => cases hq; exact k4
    | 5, hq => cases hq; exact k5
    | 6, hq => cases hq; exact k6
    | 7, hq => cases hq; exact k7
    | 8, hq => cases hq; exact k8
    | k + 9, hq => simp [vwCl] at hq
  · intro k q hq
    match k, hq with
    | 0, hq => cases hq; exact ⟨fun n z => ⟨fun k h => (by cases h), ky0, r0, co0, t0⟩, p0⟩
    | 1, hq => cases hq; exact ⟨fun n z => ⟨fun k h => (by cases h), ky1, r1, co1, t1⟩, p1⟩
    | 2, hq => cases hq; exact ⟨fun n z => ⟨fun k h => (by cases h), ky2, r2, co2, t2⟩, p2⟩
    | 3, hq => cases hq; exact ⟨fun n z => ⟨fun k h => (by cases h), ky3, r3, co3, t3⟩, p3⟩
    | 4, hq => cases hq; exact ⟨fun n z => ⟨fun k h => (by cases h), ky4, r4, co4, t4⟩, ky4, co4, r4, t4, f4, p4⟩
    | 5, hq => cases hq; exact ⟨fun n z => ⟨fun k h => (by cases h), ky5, r5, co5, t5⟩, ky5, co5, r5, t5, f5, p5⟩
    | k + 6, hq => simp [tys6] at hq
  · exact ⟨⟨va_Zof (hts (Cond.laysStatic "CornerWinds" "TERM_LEAST" "[I") (tbin_2 _ (List.mem_of_getElem? (i := 121) rfl))) (hts (Cond.initialized "CornerWinds") (tbin_1 _ (List.mem_of_getElem? (i := 1) rfl))) e0 hA, v0⟩, ⟨va_Zof (hts (Cond.laysStatic "CornerWinds" "TERM_MOST" "[I") (tbin_2 _ (List.mem_of_getElem? (i := 123) rfl))) (hts (Cond.initialized "CornerWinds") (tbin_1 _ (List.mem_of_getElem? (i := 1) rfl))) e1 hA, v1⟩, ⟨va_Zof (hts (Cond.laysStatic "CornerWinds" "TERM_FIRST" "[I") (tbin_1 _ (List.mem_of_getElem? (i := 58) rfl))) (hts (Cond.initialized "CornerWinds") (tbin_1 _ (List.mem_of_getElem? (i := 1) rfl))) e2 hA, v2⟩, ⟨va_Zof (hts (Cond.laysStatic "CornerWinds" "WAY_EAST" "[I") (tbin_2 _ (List.mem_of_getElem? (i := 185) rfl))) (hts (Cond.initialized "CornerWinds") (tbin_1 _ (List.mem_of_getElem? (i := 1) rfl))) e3 hA, v3⟩, ⟨va_Zof (hts (Cond.laysStatic "CornerWinds" "WAY_NORTH" "[I") (tbin_2 _ (List.mem_of_getElem? (i := 187) rfl))) (hts (Cond.initialized "CornerWinds") (tbin_1 _ (List.mem_of_getElem? (i := 1) rfl))) e4 hA, v4⟩, ⟨fun i hi => by rw [show i = 0 by omega]; exact vS.1 0 (by decide), fun i j h1 h2 _ => by omega⟩, va_Zof (hts (Cond.laysStatic "java/lang/String" "COMPACT_STRINGS" "Z") (tbin_3 _ (List.mem_of_getElem? (i := 49) rfl))) (hts (Cond.initialized "java/lang/String") (tbin_1 _ (List.mem_of_getElem? (i := 12) rfl))) (va_eqt (hf _ (by decide +kernel))) hA, va_Zqof (hts (Cond.laysStatic "jdk/internal/util/Preconditions" "SIOOBE_FORMATTER" "Ljava/util/function/BiFunction;") (tbin_3 _ (List.mem_of_getElem? (i := 57) rfl))) (hts (Cond.initialized "jdk/internal/util/Preconditions") (tbin_1 _ (List.mem_of_getElem? (i := 14) rfl))) (hf _ (by decide +kernel)) hA⟩
  · exact ⟨va_Nw.of rfl (hts (.fieldLinkNest RX1 84 "CornerWinds" "TERM_MOST" "[I" "CornerWinds") (tbin_2 _ (List.mem_of_getElem? (i := 175) rfl))), va_Nw.of rfl (hts (.fieldLinkNest RX1 97 "CornerWinds" "WAY_EAST" "[I" "CornerWinds") (tbin_2 _ (List.mem_of_getElem? (i := 184) rfl))), va_Nw.of rfl (hts (.fieldLinkNest RX1 100 "CornerWinds" "WAY_NORTH" "[I" "CornerWinds") (tbin_2 _ (List.mem_of_getElem? (i := 186) rfl))), vk_R.of (hts (Cond.stringRef "CornerWinds$Reader" 86 "need  look  edge  if    or    and   not   load  dead  tier  side  day   holds leg   floorsage   bracesweldedboltedmendedface  ") (tbin_3 _ (List.mem_of_getElem? (i := 39) rfl))) (eS 0 (by decide))⟩
  · exact ⟨va_Nw.of rfl (hts (.fieldLinkNest RX4 70 "CornerWinds" "TERM_FIRST" "[I" "CornerWinds") (tbin_1 _ (List.mem_of_getElem? (i := 57) rfl))), va_Nw.of rfl (hts (.methodLinkNest RX7 40 yX3_init "CornerWinds") (tbin_2 _ (List.mem_of_getElem? (i := 3) rfl))), va_Nw.of rfl (hts (.methodLinkNest RX7 47 yX0_init "CornerWinds") (tbin_2 _ (List.mem_of_getElem? (i := 44) rfl))), va_AO.of (hts (Cond.arrayOver (.object "CornerWinds$State")) (tbin_1 _ (List.mem_of_getElem? (i := 131) rfl))), va_AO.of (hts (Cond.arrayOver (.object "CornerWinds$Text")) (tbin_1 _ (List.mem_of_getElem? (i := 53) rfl)))⟩
  · exact va_Nw.of rfl (hts (.castable "[I" "java/lang/Cloneable") (tbin_3 _ (List.mem_of_getElem? (i := 151) rfl)))

theorem lw_cmp {L i : Nat} (hL : L ≤ 3072) (hi : i ≤ 4000) : (nI L - 6 < nI i) ↔ L < i + 6 := by
  rw [Int32.lt_iff_toInt_lt, show (6 : Int32) = nI 6 from rfl, pk_sub_toInt (by omega) (by decide), nI_toInt (by omega)]
  omega

set_option maxRecDepth 100000 in
set_option maxHeartbeats 16000000 in
theorem lw_loop {p : Program} {l : Launch} {e : Env} {s : State} {m : MethodId} {below : List Frame} {meth : Method} {c : Code} {b L : Nat} {xs : Nat → Int32} {Rel : RelT} {D : va_G} {cy : Nat → ClassId} {q z qm : Nat → Nat} (hp : PURE Rel) (C : Cx p s m #[Value.ref b] meth c cL_law 4 RL ret) (hlo : meth.locks = false) (hX : va_X b L xs s s.heap) (hb : b < s.heap.size) (hF : NX (PL s) s s.heap z) (hC : NC s) (hL : L ≤ 3072) :
    ∀ (n j : Nat) (H : Heap) (locs : List Loc) (ls : Array Slot), L < 6 * j + 6 * n → 6 * j ≤ L → LI Rel D cy s H locs q z qm → lv_has ls 4 [(3, .int (nI (6 * j))), (0, .ref b), (1, .ref (q 99)), (2, .ref (mq qm 46))] → W p l e room_1 s m #[Value.ref b] below meth c H locs (70 + 20 * j) (32025 + 2000 * j) (lw_Z below #[Value.ref b] s) (F0 m 18 ls []) := by
  intro n
  induction n with
  | zero => intro j H locs ls h1 h2; omega
  | succ n ih =>
    intro j H locs ls h1 h2 hI hl
    have hS : va_S (PL s) s.heap H locs := by
      obtain ⟨xx, ts, o0, o1, T, M, I, J, A, B, I1, J1, A1, B1, hI, -⟩ := hI
      exact hI.2.2.2.1
    have hbA : ¬ PL s b := fun h => Nat.lt_irrefl _ (Nat.lt_of_lt_of_le hb h)
    refine lv_iload_n C.1 C.2.1 dL_law_18 rfl (lv_at hl 0 rfl) ?_
    refine lv_aload_n C.1 C.2.1 dL_law_19 rfl (lv_at hl 1 rfl) ?_
    refine va_slen C.1 C.2.1 hX hb hbA hS dL_law_20 ?_
    refine lv_bipush (v := 6) C.1 C.2.1 dL_law_21 (by decide) ?_
    refine lv_isub C.1 C.2.1 dL_law_23 ?_
    refine lv_icmp_gt (tgt := 1427) C.1 C.2.1 dL_law_24 (by decide) (fun cn => ?_) (fun cn => ?_)
    · refine lv_iconst (v := 1) C.1 C.2.1 dL_law_1427 (by decide) ?_
      refine va_forget (fun q hq => hS.2.2 q hq) ?_
      exact W.widen (Nat.le_trans (m := 400000) (by omega) (by decide)) (Nat.le_trans (m := 4000000) (by omega) (by decide)) (lw_ret C.1 C.2.1 C.2.2.2.2.2.1 hlo dL_law_1428)
    · have hi : 6 * j + 6 ≤ L := by
        have : ¬ (nI L - 6 < nI (6 * j)) := cn
        rw [lw_cmp hL (by omega)] at this
        omega
      have hR : rml room_1 (70 + 20 * j) (32025 + 2000 * j) := ⟨by decide, by decide, Nat.le_trans (m := 400000) (by omega) (by decide), Nat.le_trans (m := 4000000) (by omega) (by decide)⟩
      refine lv_aload_n C.1 C.2.1 dL_law_27 rfl (lv_at hl 1 rfl) ?_
      refine lv_iload_n C.1 C.2.1 dL_law_28 rfl (lv_at hl 0 rfl) ?_
      refine va_sld C.1 C.2.1 hX hb hbA hS (vp_in_nI (by omega) (by omega)) dL_law_29 ?_
      refine lv_bipush (v := 63) C.1 C.2.1 dL_law_30 (by decide) ?_
      refine lv_iand C.1 C.2.1 dL_law_32 ?_
      generalize xs (nI (6 * j)).toNatClampNeg &&& 63 = v
      have kk : ∀ (H : Heap) (locs : List Loc), LI Rel D cy s H locs q z qm → W p l e room_1 s m #[Value.ref b] below meth c H locs (70 + 20 * j + 20) (32025 + 2000 * j + 2000) (lw_Z below #[Value.ref b] s) (F0 m 1421 ls []) := by
        intro H locs hI
        refine lv_iinc (v := nI (6 * (j + 1))) (lv' := [(3, .int (nI (6 * (j + 1)))), (0, .ref b), (1, .ref (q 99)), (2, .ref (mq qm 46))]) C.1 C.2.1 dL_law_1421 hl (k := 0) rfl (by rw [show (Int32.ofInt 6) = nI 6 from rfl, nI_add, Nat.mul_succ]) (by decide) rfl (fun ls hl => ?_)
        refine lv_goto (tgt := 18) C.1 C.2.1 dL_law_1424 (by decide) ?_
        exact ih (j + 1) H locs ls (by omega) (by omega) hI hl
      by_cases c0 : v = 0
      · refine lv_tableIn (off := 175) (tgt := 208) C.1 C.2.1 dL_law_33 (by rw [c0]; decide) (by rw [c0]; decide) (by rw [c0]; rfl) (by decide) ?_
        exact lw_stiff hp.1 C hX hb hF hC hi hL hR hI hl kk
      by_cases c1 : v = 1
      · refine lv_tableIn (off := 208) (tgt := 241) C.1 C.2.1 dL_law_33 (by rw [c1]; decide) (by rw [c1]; decide) (by rw [c1]; rfl) (by decide) ?_
        exact lw_tier hp.2.1 C hX hb hF hC hi hL hR hI hl kk
      by_cases c2 : v = 2
      · refine lv_tableIn (off := 251) (tgt := 284) C.1 C.2.1 dL_law_33 (by rw [c2]; decide) (by rw [c2]; decide) (by rw [c2]; rfl) (by decide) ?_
        exact lw_terms hp.2.2.1 C hX hb hF hC hi hL hR hI hl kk
      by_cases c3 : v = 3
      · refine lv_tableIn (off := 284) (tgt := 317) C.1 C.2.1 dL_law_33 (by rw [c3]; decide) (by rw [c3]; decide) (by rw [c3]; rfl) (by decide) ?_
        exact lw_wind hp.2.2.2.1 C hX hb hF hC hi hL hR hI hl kk
      by_cases c4 : v = 4
      · refine lv_tableIn (off := 327) (tgt := 360) C.1 C.2.1 dL_law_33 (by rw [c4]; decide) (by rw [c4]; decide) (by rw [c4]; rfl) (by decide) ?_
        exact lw_plate hp.2.2.2.2.1 C hX hb hF hC hi hL hR hI hl kk
      by_cases c5 : v = 5
      · refine lv_tableIn (off := 360) (tgt := 393) C.1 C.2.1 dL_law_33 (by rw [c5]; decide) (by rw [c5]; decide) (by rw [c5]; rfl) (by decide) ?_
        exact lw_joint hp.2.2.2.2.2.1 C hX hb hF hC hi hL hR hI hl kk
      by_cases c6 : v = 6
      · refine lv_tableIn (off := 393) (tgt := 426) C.1 C.2.1 dL_law_33 (by rw [c6]; decide) (by rw [c6]; decide) (by rw [c6]; rfl) (by decide) ?_
        exact lw_tension hp.2.2.2.2.2.2.1 C hX hb hF hC hi hL hR hI hl kk
      by_cases c7 : v = 7
      · refine lv_tableIn (off := 437) (tgt := 470) C.1 C.2.1 dL_law_33 (by rw [c7]; decide) (by rw [c7]; decide) (by rw [c7]; rfl) (by decide) ?_
        exact lw_goes hp.2.2.2.2.2.2.2.1 C hX hb hF hC hi hL hR hI hl kk
      by_cases c8 : v = 8
      · refine lv_tableIn (off := 480) (tgt := 513) C.1 C.2.1 dL_law_33 (by rw [c8]; decide) (by rw [c8]; decide) (by rw [c8]; rfl) (by decide) ?_
        exact lw_falls hp.2.2.2.2.2.2.2.2.1 C hX hb hF hC hi hL hR hI hl kk
      by_cases c9 : v = 9
      · refine lv_tableIn (off := 513) (tgt := 546) C.1 C.2.1 dL_law_33 (by rw [c9]; decide) (by rw [c9]; decide) (by rw [c9]; rfl) (by decide) ?_
        exact lw_feed hp.2.2.2.2.2.2.2.2.2.1 C hX hb hF hC hi hL hR hI hl kk
      by_cases c10 : v = 10
      · refine lv_tableIn (off := 576) (tgt := 609) C.1 C.2.1 dL_law_33 (by rw [c10]; decide) (by rw [c10]; decide) (by rw [c10]; rfl) (by decide) ?_
        exact lw_end hp.2.2.2.2.2.2.2.2.2.2.1 C hX hb hF hC hi hL hR hI hl kk
      by_cases c11 : v = 11
      · refine lv_tableIn (off := 599) (tgt := 632) C.1 C.2.1 dL_law_33 (by rw [c11]; decide) (by rw [c11]; decide) (by rw [c11]; rfl) (by decide) ?_
        exact lw_rule hp.2.2.2.2.2.2.2.2.2.2.2.1 C hX hb hF hC hi hL hR hI hl kk
      by_cases c12 : v = 12
      · refine lv_tableIn (off := 612) (tgt := 645) C.1 C.2.1 dL_law_33 (by rw [c12]; decide) (by rw [c12]; decide) (by rw [c12]; rfl) (by decide) ?_
        exact lw_fault hp.2.2.2.2.2.2.2.2.2.2.2.2.1 C hX hb hF hC hi hL hR hI hl kk
      by_cases c13 : v = 13
      · refine lv_tableIn (off := 625) (tgt := 658) C.1 C.2.1 dL_law_33 (by rw [c13]; decide) (by rw [c13]; decide) (by rw [c13]; rfl) (by decide) ?_
        exact lw_need hp.2.2.2.2.2.2.2.2.2.2.2.2.2.1 C hX hb hF hC hi hL hR hI hl kk
      by_cases c14 : v = 14
      · refine lv_tableIn (off := 668) (tgt := 701) C.1 C.2.1 dL_law_33 (by rw [c14]; decide) (by rw [c14]; decide) (by rw [c14]; rfl) (by decide) ?_
        exact lw_step hp.2.2.2.2.2.2.2.2.2.2.2.2.2.2.1 C hX hb hF hC hi hL hR hI hl kk
      by_cases c15 : v = 15
      · refine lv_tableIn (off := 731) (tgt := 764) C.1 C.2.1 dL_law_33 (by rw [c15]; decide) (by rw [c15]; decide) (by rw [c15]; rfl) (by decide) ?_
        exact lw_drawing hp.2.2.2.2.2.2.2.2.2.2.2.2.2.2.2.1 C hX hb hF hC hi hL hR hI hl kk
      by_cases c16 : v = 16
      · refine lv_tableIn (off := 764) (tgt := 797) C.1 C.2.1 dL_law_33 (by rw [c16]; decide) (by rw [c16]; decide) (by rw [c16]; rfl) (by decide) ?_
        exact lw_saw hp.2.2.2.2.2.2.2.2.2.2.2.2.2.2.2.2.1 C hX hb hF hC hi hL hR hI hl kk
      by_cases c17 : v = 17
      · refine lv_tableIn (off := 777) (tgt := 810) C.1 C.2.1 dL_law_33 (by rw [c17]; decide) (by rw [c17]; decide) (by rw [c17]; rfl) (by decide) ?_
        exact lw_odds hp.2.2.2.2.2.2.2.2.2.2.2.2.2.2.2.2.2.1 C hX hb hF hC hi hL hR hI hl kk
      by_cases c18 : v = 18
      · refine lv_tableIn (off := 800) (tgt := 833) C.1 C.2.1 dL_law_33 (by rw [c18]; decide) (by rw [c18]; decide) (by rw [c18]; rfl) (by decide) ?_
        exact lw_wish hp.2.2.2.2.2.2.2.2.2.2.2.2.2.2.2.2.2.2.1 C hX hb hF hC hi hL hR hI hl kk
      by_cases c19 : v = 19
      · refine lv_tableIn (off := 823) (tgt := 856) C.1 C.2.1 dL_law_33 (by rw [c19]; decide) (by rw [c19]; decide) (by rw [c19]; rfl) (by decide) ?_
        exact lw_clear hp.2.2.2.2.2.2.2.2.2.2.2.2.2.2.2.2.2.2.2.1 C hX hb hF hC hi hL hR hI hl kk
      by_cases c20 : v = 20
      · refine lv_tableIn (off := 836) (tgt := 869) C.1 C.2.1 dL_law_33 (by rw [c20]; decide) (by rw [c20]; decide) (by rw [c20]; rfl) (by decide) ?_
        exact lw_best hp.2.2.2.2.2.2.2.2.2.2.2.2.2.2.2.2.2.2.2.2.1 C hX hb hF hC hi hL hR hI hl kk
      by_cases c21 : v = 21
      · refine lv_tableIn (off := 850) (tgt := 883) C.1 C.2.1 dL_law_33 (by rw [c21]; decide) (by rw [c21]; decide) (by rw [c21]; rfl) (by decide) ?_
        exact lw_night hp.2.2.2.2.2.2.2.2.2.2.2.2.2.2.2.2.2.2.2.2.2.1 C hX hb hF hC hi hL hR hI hl kk
      by_cases c22 : v = 22
      · refine lv_tableIn (off := 873) (tgt := 906) C.1 C.2.1 dL_law_33 (by rw [c22]; decide) (by rw [c22]; decide) (by rw [c22]; rfl) (by decide) ?_
        exact lw_low hp.2.2.2.2.2.2.2.2.2.2.2.2.2.2.2.2.2.2.2.2.2.2.1 C hX hb hF hC hi hL hR hI hl kk
      by_cases c23 : v = 23
      · refine lv_tableIn (off := 887) (tgt := 920) C.1 C.2.1 dL_law_33 (by rw [c23]; decide) (by rw [c23]; decide) (by rw [c23]; rfl) (by decide) ?_
        exact lw_enough hp.2.2.2.2.2.2.2.2.2.2.2.2.2.2.2.2.2.2.2.2.2.2.2.1 C hX hb hF hC hi hL hR hI hl kk
      by_cases c24 : v = 24
      · refine lv_tableIn (off := 910) (tgt := 943) C.1 C.2.1 dL_law_33 (by rw [c24]; decide) (by rw [c24]; decide) (by rw [c24]; rfl) (by decide) ?_
        exact lw_move hp.2.2.2.2.2.2.2.2.2.2.2.2.2.2.2.2.2.2.2.2.2.2.2.2.1 C hX hb hF hC hi hL hR hI hl kk
      by_cases c25 : v = 25
      · refine lv_tableIn (off := 923) (tgt := 956) C.1 C.2.1 dL_law_33 (by rw [c25]; decide) (by rw [c25]; decide) (by rw [c25]; rfl) (by decide) ?_
        exact lw_find hp.2.2.2.2.2.2.2.2.2.2.2.2.2.2.2.2.2.2.2.2.2.2.2.2.2.1 C hX hb hF hC hi hL hR hI hl kk
      by_cases c26 : v = 26
      · refine lv_tableIn (off := 966) (tgt := 999) C.1 C.2.1 dL_law_33 (by rw [c26]; decide) (by rw [c26]; decide) (by rw [c26]; rfl) (by decide) ?_
        exact lw_tell hp.2.2.2.2.2.2.2.2.2.2.2.2.2.2.2.2.2.2.2.2.2.2.2.2.2.2.1 C hX hb hF hC hi hL hR hI hl kk
      by_cases c27 : v = 27
      · refine lv_tableIn (off := 1019) (tgt := 1052) C.1 C.2.1 dL_law_33 (by rw [c27]; decide) (by rw [c27]; decide) (by rw [c27]; rfl) (by decide) ?_
        exact lw_knew hp.2.2.2.2.2.2.2.2.2.2.2.2.2.2.2.2.2.2.2.2.2.2.2.2.2.2.2.1 C hX hb hF hC hi hL hR hI hl kk
      by_cases c28 : v = 28
      · refine lv_tableIn (off := 1052) (tgt := 1085) C.1 C.2.1 dL_law_33 (by rw [c28]; decide) (by rw [c28]; decide) (by rw [c28]; rfl) (by decide) ?_
        exact lw_owed hp.2.2.2.2.2.2.2.2.2.2.2.2.2.2.2.2.2.2.2.2.2.2.2.2.2.2.2.2.1 C hX hb hF hC hi hL hR hI hl kk
      by_cases c29 : v = 29
      · refine lv_tableIn (off := 1095) (tgt := 1128) C.1 C.2.1 dL_law_33 (by rw [c29]; decide) (by rw [c29]; decide) (by rw [c29]; rfl) (by decide) ?_
        exact lw_street hp.2.2.2.2.2.2.2.2.2.2.2.2.2.2.2.2.2.2.2.2.2.2.2.2.2.2.2.2.2.1 C hX hb hF hC hi hL hR hI hl kk
      by_cases c30 : v = 30
      · refine lv_tableIn (off := 1138) (tgt := 1171) C.1 C.2.1 dL_law_33 (by rw [c30]; decide) (by rw [c30]; decide) (by rw [c30]; rfl) (by decide) ?_
        exact lw_under hp.2.2.2.2.2.2.2.2.2.2.2.2.2.2.2.2.2.2.2.2.2.2.2.2.2.2.2.2.2.2.1 C hX hb hF hC hi hL hR hI hl kk
      by_cases c31 : v = 31
      · refine lv_tableIn (off := 1171) (tgt := 1204) C.1 C.2.1 dL_law_33 (by rw [c31]; decide) (by rw [c31]; decide) (by rw [c31]; rfl) (by decide) ?_
        exact lw_row hp.2.2.2.2.2.2.2.2.2.2.2.2.2.2.2.2.2.2.2.2.2.2.2.2.2.2.2.2.2.2.2.1 C hX hb hF hC hi hL hR hI hl kk
      by_cases c32 : v = 32
      · refine lv_tableIn (off := 1184) (tgt := 1217) C.1 C.2.1 dL_law_33 (by rw [c32]; decide) (by rw [c32]; decide) (by rw [c32]; rfl) (by decide) ?_
        exact lw_call hp.2.2.2.2.2.2.2.2.2.2.2.2.2.2.2.2.2.2.2.2.2.2.2.2.2.2.2.2.2.2.2.2.1 C hX hb hF hC hi hL hR hI hl kk
      by_cases c33 : v = 33
      · refine lv_tableIn (off := 1207) (tgt := 1240) C.1 C.2.1 dL_law_33 (by rw [c33]; decide) (by rw [c33]; decide) (by rw [c33]; rfl) (by decide) ?_
        exact lw_when hp.2.2.2.2.2.2.2.2.2.2.2.2.2.2.2.2.2.2.2.2.2.2.2.2.2.2.2.2.2.2.2.2.2.1 C hX hb hF hC hi hL hR hI hl kk
      by_cases c34 : v = 34
      · refine lv_tableIn (off := 1220) (tgt := 1253) C.1 C.2.1 dL_law_33 (by rw [c34]; decide) (by rw [c34]; decide) (by rw [c34]; rfl) (by decide) ?_
        exact lw_tower hp.2.2.2.2.2.2.2.2.2.2.2.2.2.2.2.2.2.2.2.2.2.2.2.2.2.2.2.2.2.2.2.2.2.2.1 C hX hb hF hC hi hL hR hI hl kk
      by_cases c35 : v = 35
      · refine lv_tableIn (off := 1283) (tgt := 1316) C.1 C.2.1 dL_law_33 (by rw [c35]; decide) (by rw [c35]; decide) (by rw [c35]; rfl) (by decide) ?_
        exact lw_first hp.2.2.2.2.2.2.2.2.2.2.2.2.2.2.2.2.2.2.2.2.2.2.2.2.2.2.2.2.2.2.2.2.2.2.2.1 C hX hb hF hC hi hL hR hI hl kk
      by_cases c36 : v = 36
      · refine lv_tableIn (off := 1306) (tgt := 1339) C.1 C.2.1 dL_law_33 (by rw [c36]; decide) (by rw [c36]; decide) (by rw [c36]; rfl) (by decide) ?_
        exact lw_image hp.2.2.2.2.2.2.2.2.2.2.2.2.2.2.2.2.2.2.2.2.2.2.2.2.2.2.2.2.2.2.2.2.2.2.2.2.1 C hX hb hF hC hi hL hR hI hl kk
      by_cases c37 : v = 37
      · refine lv_tableIn (off := 1329) (tgt := 1362) C.1 C.2.1 dL_law_33 (by rw [c37]; decide) (by rw [c37]; decide) (by rw [c37]; rfl) (by decide) ?_
        exact lw_back hp.2.2.2.2.2.2.2.2.2.2.2.2.2.2.2.2.2.2.2.2.2.2.2.2.2.2.2.2.2.2.2.2.2.2.2.2.2.1 C hX hb hF hC hi hL hR hI hl kk
      by_cases c38 : v = 38
      · refine lv_tableIn (off := 1352) (tgt := 1385) C.1 C.2.1 dL_law_33 (by rw [c38]; decide) (by rw [c38]; decide) (by rw [c38]; rfl) (by decide) ?_
        exact lw_count hp.2.2.2.2.2.2.2.2.2.2.2.2.2.2.2.2.2.2.2.2.2.2.2.2.2.2.2.2.2.2.2.2.2.2.2.2.2.2.1 C hX hb hF hC hi hL hR hI hl kk
      by_cases c39 : v = 39
      · refine lv_tableIn (off := 1375) (tgt := 1408) C.1 C.2.1 dL_law_33 (by rw [c39]; decide) (by rw [c39]; decide) (by rw [c39]; rfl) (by decide) ?_
        exact lw_status hp.2.2.2.2.2.2.2.2.2.2.2.2.2.2.2.2.2.2.2.2.2.2.2.2.2.2.2.2.2.2.2.2.2.2.2.2.2.2.2 C hX hb hF hC hi hL hR hI hl kk
      refine lv_tableOut (tgt := 1421) C.1 C.2.1 dL_law_33 (tab_out40 c0 c1 c2 c3 c4 c5 c6 c7 c8 c9 c10 c11 c12 c13 c14 c15 c16 c17 c18 c19 c20 c21 c22 c23 c24 c25 c26 c27 c28 c29 c30 c31 c32 c33 c34 c35 c36 c37 c38 c39) (by decide) ?_
      exact W.widen (by omega) (by omega) (kk H locs hI)
