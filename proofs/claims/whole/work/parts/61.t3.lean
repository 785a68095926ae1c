theorem tn_8 : ∀ a, a < 8 → ∀ b, b < 8 → (nI a - nI b) &&& 7 = (nI a - nI b + 8) - (nI a - nI b + 8) / 8 * 8 := by decide +kernel
theorem id_w (p d x : Int) : 2 * p - x * (2000 * d) = 2 * (p - 1000 * x * d) := by grind
section T4
variable {X : Txt → Int32 → (Nat → Int32) → (Nat → Int32) → Prop} {G : Nat → Nat → Int32 → Prop} {I I' I1 I1' : Nat → Int32} {J J' J1 J1' : Nat → Int64} {A A' A1 A1' : Nat → Nat → Int32} {B B' B1 B1' : Nat → Nat → Int64} {T : Nat → Option Txt} {M : Nat → Option Img} {K : Nat → Int32} {c : Int32} {k w : Nat}
abbrev Q5 (X : Txt → Int32 → (Nat → Int32) → (Nat → Int32) → Prop) (G : Nat → Nat → Int32 → Prop) (T : Nat → Option Txt) (M : Nat → Option Img) {α : Type} : (α × (Nat → Int32) × (Nat → Int64) × (Nat → Nat → Int32) × (Nat → Nat → Int64)) → (α × (Nat → Int32) × (Nat → Int64) × (Nat → Nat → Int32) × (Nat → Nat → Int64)) → Prop := fun a b => a.1 = b.1 ∧ RE X G a.2.1 a.2.2.1 a.2.2.2.1 a.2.2.2.2 T M b.2.1 b.2.2.1 b.2.2.2.1 b.2.2.2.2
theorem fin_5 {α : Type} {o o' : Option (α × (Nat → Int32) × (Nat → Int64) × (Nat → Nat → Int32) × (Nat → Nat → Int64))} (h : RB o o' (Q5 X G T M)) : ∃ (r : α) (I2 : Nat → Int32) (J2 : Nat → Int64) (A2 : Nat → Nat → Int32) (B2 : Nat → Nat → Int64) (I3 : Nat → Int32) (J3 : Nat → Int64) (A3 : Nat → Nat → Int32) (B3 : Nat → Nat → Int64), o = some (r, I2, J2, A2, B2) ∧ o' = some (r, I3, J3, A3, B3) ∧ RE X G I2 J2 A2 B2 T M I3 J3 A3 B3 := by
  obtain ⟨⟨r, I2, J2, A2, B2⟩, ⟨r', I3, J3, A3, B3⟩, h1, h2, h3, h4⟩ := h
  cases h3
  exact ⟨r, I2, J2, A2, B2, I3, J3, A3, B3, h1, h2, h4⟩
theorem ps_falls (hX : XE X) : PS_falls (RE X GG) := by
  intro x1 x2 I J A B T M I1 J1 A1 B1 hr
  refine fin_5 ?_
  obtain ⟨k, hk, ek, e1⟩ := wk_2 hr.1
  unfold sX7_falls sX8_falls
  refine rr_bind (iw_8 e1 x1) ?_
  by_cases h1 : rg x1 0 (nI k - 1) = 0
  · exact rl_bind (ib_0 ek hk h1) (rl_t rfl (rr_t h1 (rb_some ⟨rfl, hr⟩)))
  · refine rr_f h1 (rr_bind (rg_in _ _ _) ?_)
    obtain ⟨w, hw, rfl, hib⟩ := ib_1 (J := J) (A := A) (B := B) (y := x2) ek hk h1
    refine rl_bind hib ?_
    by_cases h2 : rg x2 0 1 = 0
    · exact rr_t h2 (rl_t (if_02 (fun q => (rg_01.mpr q) h2)) (rb_some ⟨rfl, hr⟩))
    · have hc := rg_01.mp h2
      refine rr_f h2 (rl_f (by rw [if_01 hc]; decide) ?_)
      obtain ⟨Ia, Aa, I2, J2, A2, B2, I3, J3, A3, B3, L, o, q1, q2, q3, q4, q5, q6, q7, q8, q9, q10, q11, -⟩ := bb_2 hX hr ek hk hw hc
      exact rl_bind q1 (rl_bind q2 (rr_bind q3 (rb_some ⟨q8.trans q9.symm, q11⟩)))
theorem ps_goes (hX : XE X) : PS_goes (RE X GG) := by
  intro x1 x2 x3 I J A B T M I1 J1 A1 B1 hr
  refine fin_5 ?_
  obtain ⟨k, hk, ek, e1⟩ := wk_2 hr.1
  unfold sX7_goes sX8_goes
  refine rr_bind (iw_8 e1 x1) ?_
  by_cases h1 : rg x1 0 (nI k - 1) = 0
  · exact rl_bind (ib_0 ek hk h1) (rl_t rfl (rr_t h1 (rb_some ⟨rfl, hr⟩)))
  · refine rr_f h1 (rr_bind (rg_in _ _ _) ?_)
    obtain ⟨w, hw, rfl, hib⟩ := ib_1 (J := J) (A := A) (B := B) (y := x2) ek hk h1
    refine rl_bind hib ?_
    by_cases h2 : rg x2 0 1 = 0
    · exact rr_t h2 (rl_t (if_02 (fun q => (rg_01.mpr q) h2)) (rb_some ⟨rfl, hr⟩))
    · have hc := rg_01.mp h2
      refine rr_f h2 (rl_f (by rw [if_01 hc]; decide) ?_)
      obtain ⟨Ia, Aa, I2, J2, A2, B2, I3, J3, A3, B3, L, o, q1, q2, q3, q4, q5, q6, q7, q8, q9, q10, q11, p1, p2, p3⟩ := bb_2 hX hr ek hk hw hc
      refine rl_bind q1 (rl_bind q2 ?_)
      have hmix : RE X GG I2 J2 A2 B2 T M I1 J1 A1 B1 := by
        have h3 : bt (A 15 3) 0 10 := (hr.1.2.2.2.2.2.1.1 3 (by decide)).2
        obtain ⟨Ib, Ab, z1, z2, z3, z4⟩ := rd_7 (J := J) (B := B) hr.1
        rw [q1] at z1
        cases z1
        have hsa : SR X GG Ia Aa T (A1 1) := SR_ext hX (fun k k1 k2 => z2 k (by omega)) (fun a k1 k2 j => by rw [z3 a (by omega) (by omega) (by omega)]) (fun _ _ => rfl) hr.1
        have hh : ∀ j, j < 48 → 0 ≤ (fun j => (hdf A j).toInt) j ∧ (fun j => (hdf A j).toInt) j ≤ 100000 := fun j hj => by
          have := hd_v hr.1 hj
          show 0 ≤ (hdf A j).toInt ∧ (hdf A j).toInt ≤ 100000
          omega
        obtain ⟨J2', b1, b2⟩ := bw_s (J := J) (B := B) hsa ((z2 32 (by decide)).trans ek) hk hw hc hh h3 z4
        obtain ⟨I2', A2', B2', r1, r2, -⟩ := bw_7 b1 b2
        rw [q2] at r1
        cases r1
        refine RE_br hX (fun k hk => ?_) (fun a ha => ?_) (fun _ _ => rfl) (fun _ _ => rfl) hr
        · rw [r2.1 k (by omega) (by omega), z2 k (by omega)]
        · rw [r2.2.1 a (by omega) (by omega) (by omega) (by omega), z3 a (by omega) (by omega) (by omega)]
      by_cases h3 : x3 = -1
      · subst h3
        exact rl_t rfl (rr_t (by decide) (rr_bind q3 (rr_t rfl (rb_some ⟨q5.trans q6.symm, q11⟩))))
      · refine rl_f h3 (rl_bind (rg_wi _ _ _) ?_)
        by_cases h4 : x3 < 0
        · have hz : rg x3 0 (I2 53 - 1) = 0 := by unfold rg; rw [if_pos h4]
          refine rl_t hz ?_
          refine rr_f (fun q => ?_) (rb_some ⟨rfl, hmix⟩)
          rw [i32_le, show (-1 : Int32).toInt = -1 from rfl] at q
          rw [i32_lt, show (0 : Int32).toInt = 0 from rfl] at h4
          exact h3 (Int32.toInt_inj.mp (by rw [show (-1 : Int32).toInt = -1 from rfl]; omega))
        · refine rr_t (by rw [i32_le, show (-1 : Int32).toInt = -1 from rfl]; rw [i32_lt, show (0 : Int32).toInt = 0 from rfl] at h4; omega) (rr_bind q3 (rr_f h3 ?_))
          show RB _ (if I3 15 ≤ x3 then _ else _) _
          rw [q5, q6]
          obtain ⟨i, hi, rfl⟩ := nI_of h4
          by_cases h5 : i < L
          · refine rl_f (fun q => ?_) (rr_f (by rw [nn_le (by omega) hi]; omega) ?_)
            · unfold rg at q
              rw [if_neg h4, if_neg (by rw [i32_lt, show (1 : Int32) = nI 1 from rfl, pk_sub_toInt (by omega) (by decide), nI_toInt hi]; omega)] at q
              cases q
            · refine rl_ck (inB_n (by omega) (by decide)) (rr_ck (inB_n (by omega) (by decide)) (rb_some ⟨?_, q11⟩))
              rw [ix_n hi]
              exact q7 i h5
          · refine rl_t ?_ (rr_t (by rw [nn_le (by omega) hi]; omega) (rb_some ⟨rfl, q11⟩))
            unfold rg
            rw [if_neg h4, if_pos (by rw [i32_lt, show (1 : Int32) = nI 1 from rfl, pk_sub_toInt (by omega) (by decide), nI_toInt hi]; omega)]
theorem un_2 {s y : Nat} {x : Int32} (hs : SR X GG I A T (A1 1)) (ek : I 38 = nI s) (hk : s ≤ 32) (hy : y < 8) (hw : w < 16) (hwy : A1 1 (165 + 3 * w) = nI y) : ∀ (n i : Nat) (v : Int32), s < i + n → i ≤ s → RB (lX4_peopleUnder_5 n (nI y) x v (nI i) I J A B) (lX8_under_51 n (nI w) x v (nI i) I1 J1 A1 B1) (fun a b => a = b) := by
  obtain ⟨ew, es, k2, hk2, ek2, hc⟩ := hs.2.2.2.2.2.2.2.1 2 (by decide)
  have ew : I 36 = nI 3 := ew
  have e : k2 = s := by
    have e3 : nI k2 = nI s := ek2.symm.trans ek
    have hk2 : k2 ≤ 32 := hk2
    have := congrArg Int32.toNatClampNeg e3
    rw [nI_clamp (by omega), nI_clamp (by omega)] at this
    exact this
  subst e
  have hc2 : ∀ j, j < k2 * 3 → A 37 j = A1 1 (637 + j) ∧ GG 2 (j % 3) (A 37 j) := fun j hj => hc j hj (fun h => absurd h (by decide))
  have e1 : A1 1 1636 = nI k2 := es.symm.trans ek
  intro n
  induction n with
  | zero => intro i v h1 h2; omega
  | succ n ih =>
    intro i v h1 h2
    rw [lX4_peopleUnder_5, lX8_under_51, ek, show A1 1 (ix 1636) = nI k2 from e1]
    refine rb_if Iff.rfl (fun _ _ => rb_some rfl) (fun g _ => ?_)
    rw [nn_le (by omega) (by omega)] at g
    have c0 := hc2 (i * 3) (by omega)
    have c1 := hc2 (i * 3 + 1) (by omega)
    have c2 := hc2 (i * 3 + 2) (by omega)
    rw [show i * 3 % 3 = 0 by omega] at c0
    have g0 : bt (A 37 (i * 3)) 0 7 := c0.2
    obtain ⟨z, hz, ez⟩ := nI_of (x := A 37 (i * 3)) (by rw [i32_lt, show (0 : Int32).toInt = 0 from rfl]; omega)
    have hz8 : z < 8 := by rw [ez, bt, nI_toInt hz] at g0; omega
    have d0 : sX5_cell 2 (nI i) 0 I J A B = some (nI z) := by rw [← ez]; exact cell_7 (n := 2) (k := k2) (i := i) (c := 0) (by decide) ew ek hk (by omega) (by decide)
    have d1 : sX5_cell 2 (nI i) 1 I J A B = some (A 37 (i * 3 + 1)) := cell_7 (n := 2) (k := k2) (i := i) (c := 1) (by decide) ew ek hk (by omega) (by decide)
    have d2 : sX5_cell 2 (nI i) 2 I J A B = some (A 37 (i * 3 + 2)) := cell_7 (n := 2) (k := k2) (i := i) (c := 2) (by decide) ew ek hk (by omega) (by decide)
    have kz : A1 1 (637 + 3 * i) = nI z := by rw [← ez, c0.1]; congr 1; omega
    have k1 : A1 1 (637 + 3 * i + 1) = A 37 (i * 3 + 1) := by rw [c1.1]; congr 1; omega
    have k2e : A1 1 (637 + 3 * i + 2) = A 37 (i * 3 + 2) := by rw [c2.1]; congr 1; omega
    rw [show (637 : Int32) + 3 * nI i = nI (637 + 3 * i) by rw [show (3 : Int32) = nI 3 from rfl, show (637 : Int32) = nI 637 from rfl, pk_mul, nI_add], show nI (637 + 3 * i) + (1 : Int32) = nI (637 + 3 * i + 1) from nI_add _ _, show nI (637 + 3 * i) + (2 : Int32) = nI (637 + 3 * i + 2) from nI_add _ _, ix_n (show 637 + 3 * i < 2 ^ 31 by omega), ix_n (show 637 + 3 * i + 1 < 2 ^ 31 by omega), ix_n (show 637 + 3 * i + 2 < 2 ^ 31 by omega), kz, k1, k2e, nI_1]
    refine rl_bind d0 (rl_gv (rl_gv (rl_bind d1 ?_)))
    have hwd : sX8_windOf (nI w) 0 I1 J1 A1 B1 = some (nI y) := by rw [← hwy]; exact wd_8 (f := 0) hw (by decide)
    refine rr_ck (inB_n (by omega) (by decide)) (rr_bind hwd (rr_gv (rr_gv (rr_ck (inB_n (by omega) (by decide)) ?_))))
    rw [tn_8 z hz8 y hy]
    refine rb_if Iff.rfl (fun _ _ => rl_gv (rr_gv (rr_gv ?_))) (fun _ _ => rl_bind d2 (rl_gv (rl_gv (rr_ck (inB_n (by omega) (by decide)) (rr_gv (rr_gv ?_))))))
    · rw [Int32.add_zero]
      exact ih (i + 1) v (by omega) (by omega)
    · exact ih (i + 1) _ (by omega) (by omega)
theorem ps_under (hX : XE X) : PS_under (RE X GG) := by
  intro x1 x2 I J A B T M I1 J1 A1 B1 hr
  refine fin_5 ?_
  obtain ⟨k, hk, ek, e1⟩ := wk_2 hr.1
  unfold sX7_under sX8_under
  refine rr_bind (iw_8 e1 x1) ?_
  by_cases h1 : rg x1 0 (nI k - 1) = 0
  · exact rl_bind (ib_0 ek hk h1) (rl_t rfl (rr_t h1 (rb_some ⟨rfl, hr⟩)))
  · refine rr_f h1 (rr_bind (rg_in _ _ _) ?_)
    obtain ⟨w, hw, rfl, hib⟩ := ib_1 (J := J) (A := A) (B := B) (y := x2) ek hk h1
    refine rl_bind hib ?_
    by_cases h2 : rg x2 0 1 = 0
    · exact rr_t h2 (rl_t (if_02 (fun q => (rg_01.mpr q) h2)) (rb_some ⟨rfl, hr⟩))
    · have hc := rg_01.mp h2
      refine rr_f h2 (rl_f (by rw [if_01 hc]; decide) ?_)
      obtain ⟨Ia, Aa, I2, J2, A2, B2, I3, J3, A3, B3, L, o, q1, q2, q3, q4, q5, q6, q7, q8, q9, q10, q11, p1, p2, p3⟩ := bb_2 hX hr ek hk hw hc
      refine rl_bind q1 (rl_bind q2 (rr_bind q3 ?_))
      show RB (if I2 54 = -1 then _ else _) (if I3 16 = -1 then _ else _) _
      rw [q8, q9]
      refine rb_if Iff.rfl (fun _ _ => rb_some ⟨rfl, q11⟩) (fun g _ => ?_)
      have ek2 : I2 32 = nI k := p1.trans ek
      obtain ⟨⟨y, hy, ey, ky⟩, -, -⟩ := wnd q11.1 ek2 hk hw
      have c0 : sX5_cell 0 (nI w) 0 I2 J2 A2 B2 = some (nI y) := by rw [← ey]; exact cell_7 (n := 0) (k := k) (i := w) (c := 0) (by decide) (q11.1.2.2.2.2.2.2.2.1 0 (by decide)).1 ek2 hk hw (by decide)
      refine rl_bind c0 (rr_gv ?_)
      obtain ⟨-, -, s, hs, es, -⟩ := q11.1.2.2.2.2.2.2.2.1 2 (by decide)
      have hs : s ≤ 32 := hs
      obtain ⟨a, b, u1, u2, u3⟩ := un_2 (J := J2) (B := B2) (I1 := I3) (J1 := J3) (B1 := B3) (x := 3 * (6 - fI o)) q11.1 es hs hy (show w < 16 by omega) ky FU 0 0 (by unfold FU; omega) (by omega)
      have u1 : lX4_peopleUnder_5 FU (nI y) (3 * (6 - fI o)) 0 0 I2 J2 A2 B2 = some a := u1
      have u2 : lX8_under_51 FU (nI w) (3 * (6 - fI o)) 0 0 I3 J3 A3 B3 = some b := u2
      refine rl_bind (a := a) ?_ (rr_bind u2 (rb_some ⟨u3, q11⟩))
      unfold sX4_peopleUnder
      rw [u1]
      rfl
theorem ps_tension (hX : XE X) : PS_tension (RE X GG) := by
  intro x1 x2 x3 I J A B T M I1 J1 A1 B1 hr
  obtain ⟨k, hk, ek, e1⟩ := wk_2 hr.1
  have hb : RB (sX7_tension x1 x2 x3 I J A B) (sX8_tension x1 x2 x3 I1 J1 A1 B1) (fun a b => a.1 = b.1 ∧ RE X GG a.2.1 a.2.2.1 a.2.2.2.1 a.2.2.2.2 T M I1 b.2.1 b.2.2.1 b.2.2.2) := by
    unfold sX7_tension sX8_tension
    refine rr_bind (iw_8 e1 x1) ?_
    by_cases h1 : rg x1 0 (nI k - 1) = 0
    · exact rl_bind (ib_0 ek hk h1) (rl_t rfl (rr_t h1 (rb_some ⟨rfl, hr⟩)))
    · refine rr_f h1 (rr_bind (jt_8 x2) ?_)
      obtain ⟨w, hw, rfl, hib⟩ := ib_1 (J := J) (A := A) (B := B) (y := x3) ek hk h1
      refine rl_bind hib ?_
      by_cases h2 : rg x3 0 1 = 0
      · refine rl_t (if_02 (fun q => (rg_01.mpr q) h2)) ?_
        by_cases h3 : rg x2 0 47 = 0
        · exact rr_t h3 (rb_some ⟨rfl, hr⟩)
        · exact rr_f h3 (rr_bind (rg_in _ _ _) (rr_t h2 (rb_some ⟨rfl, hr⟩)))
      · have hc := rg_01.mp h2
        refine rl_f (by rw [if_01 hc]; decide) (rl_bind (jt_7 x2) ?_)
        refine rb_if Iff.rfl (fun _ _ => rb_some ⟨rfl, hr⟩) (fun h3 _ => rr_bind (rg_in _ _ _) (rr_f h2 ?_))
        obtain ⟨u1, u2⟩ := rg_1 h3
        obtain ⟨j, hj, rfl⟩ := nI_of2 (n := 47) (by decide) u1 u2
        have hj : j < 48 := by omega
        have e8 : nI j / (8 : Int32) = nI (j / 8) := pk_div (by omega) (by decide) (by decide)
        rw [e8]
        have hl3 : bt (A 15 3) 0 10 := (hr.1.2.2.2.2.2.1.1 3 (by decide)).2
        obtain ⟨Ia, Aa, q1, q2, q3, q4⟩ := rd_7 (J := J) (B := B) hr.1
        have hsa : SR X GG Ia Aa T (A1 1) := SR_ext hX (fun k k1 k2 => q2 k (by omega)) (fun a k1 k2 j => by rw [q3 a (by omega) (by omega) (by omega)]) (fun _ _ => rfl) hr.1
        have hh : ∀ j, j < 48 → 0 ≤ (fun j => (hdf A j).toInt) j ∧ (fun j => (hdf A j).toInt) j ≤ 100000 := fun j hj => by
          have := hd_v hr.1 hj
          show 0 ≤ (hdf A j).toInt ∧ (hdf A j).toInt ≤ 100000
          omega
        obtain ⟨J2, b1, b2⟩ := bw_s (J := J) (B := B) hsa ((q2 32 (by decide)).trans ek) hk hw hc hh hl3 q4
        rw [eS_x (q3 10 (by decide) (by decide) (by decide)) (q3 14 (by decide) (by decide) (by decide)) (q3 13 (by decide) (by decide) (by decide)) (q3 31 (by decide) (by decide) (by decide)) (q3 15 (by decide) (by decide) (by decide))] at b2
        refine rl_bind q1 (rl_bind b1 ?_)
        have hrs := rb_w (c := x3) hr.1 ek hk hw
        generalize eS (fun j => (hdf A j).toInt) (A 15 3).toInt A w x3 = e at b2 hrs
        have he := b2.1
        have hok : okF e (fun _ => false) (j / 8) = true := ok_0 he (by omega)
        obtain ⟨A2, B2, r1, r2, r3, r4⟩ := sd_7 (g := fun _ => false) (B := B) (gm := 0) b2 (show j / 8 < 6 by omega) (fun i _ => bb_0 i)
        rw [hok, if_pos rfl] at r1
        refine rl_bind r1 (rl_f (by decide) ?_)
        obtain ⟨A3, s1, s2, s3⟩ := ng_9 (I := I1) (J := J1) (A := A1) (B := B1)
        refine rr_bind s1 ?_
        have hrs3 := RS_x hrs (s2 1 (by decide))
        obtain ⟨J3, B3, t1, t2, t3, t4, t5, t6, t7, t8⟩ := ly_8 (g := fun _ => false) (I := I1) (J := J1) (B := B1) hrs3 (fun i h _ => s3 i h) (show j / 8 < 6 by omega)
        refine rr_bind t1 ?_
        have hw0 := ((okF_i _ _ _).mp hok).1
        obtain ⟨J4, p1, p2, p3, p4⟩ := pu_8 (g := fun _ => false) (x := 1) (I := I1) hj hrs3.2.1 hrs3.2.2.2.1 ⟨t4, t5, t6, t7, t8 hw0⟩
        refine rr_bind p1 ?_
        have hd := dF_1 (g := fun _ => false) he hj rfl hok
        have hdb : (dF e (fun _ => false) (j / 8) (j / 2 % 4)).natAbs ≤ 839808000 := dF_b he (by omega) (by omega)
        have hpb := pF_b (g := fun _ => false) he hj
        have h2b := he.2.2.1 (j / 8) (by omega)
        have hdd : (1000 * e 2 (j / 8) * dF e (fun _ => false) (j / 8) (j / 2 % 4)).natAbs ≤ 83980800000000000 := ab_mul (m := 100000000) (n := 839808000) (ab_mul (m := 1000) (n := 100000) (by decide) (by omega)) hdb
        rw [p3, p4, if_neg (by decide), show 2 * pF e (fun _ => false) j - e 2 (j / 8) * (2000 * dF e (fun _ => false) (j / 8) (j / 2 % 4)) = 2 * (pF e (fun _ => false) j - 1000 * e 2 (j / 8) * dF e (fun _ => false) (j / 8) (j / 2 % 4)) from id_w _ _ _]
        refine rr_bind (th_8 (by omega) hd hdb) ?_
        obtain ⟨f1, f2, f3⟩ := r4 hok (j / 2 % 4) (by omega)
        have hth : sX1_thousandths (nI j) Ia J2 A2 B2 = some (lI ((pF e (fun _ => false) j - 1000 * e 2 (j / 8) * dF e (fun _ => false) (j / 8) (j / 2 % 4)).tdiv (dF e (fun _ => false) (j / 8) (j / 2 % 4)))) := by
          unfold sX1_thousandths
          rw [fc_1 hj]
          dsimp only [gv, Option.bind_some]
          rw [e8, ix_n (show j / 2 % 4 < 2 ^ 31 by omega), ix_n (show j / 8 < 2 ^ 31 by omega), f3, ck, if_pos (inB_n (by omega) (by decide)), ck, if_pos (inB_n (by omega) (by decide)), if_neg (fun q => by have := (l_c0 (by omega)).mp q; omega)]
          rw [pl_7 hj (fun j h => by rw [r2 10 (by decide)]; exact b2.2.1 j h) f1 f2]
          dsimp only [Option.bind_some]
          rw [ck, if_pos (l_nz (by omega) (by omega)), r2 14 (by decide), l_32 (b2.2.2.2.1 (j / 8) (by omega)), show (1000 : Int64) = lI 1000 by decide +kernel, ← l_mul, ← l_mul, ← l_sub, l_td (by omega) (by omega) (by omega)]
        refine rl_bind hth (rb_some ⟨rfl, ?_⟩)
        refine RE_br hX (fun k hk => q2 k (by omega)) (fun a ha => ?_) (fun _ _ => rfl) (fun a ha => s2 a (by omega)) hr
        show A2 a = A a
        rw [r2 a (by omega), q3 a (by omega) (by omega) (by omega)]
  obtain ⟨⟨r, I2, J2, A2, B2⟩, ⟨r', J3, A3, B3⟩, h1, h2, h3, h4⟩ := hb
  cases h3
  exact ⟨r, I2, J2, A2, B2, J3, A3, B3, h1, h2, h4⟩
end T4
