section Y4
variable {I I1 : Nat → Int32} {J J1 : Nat → Int64} {A A1 : Nat → Nat → Int32} {B B1 : Nat → Nat → Int64} {tp : Nat → Nat} {z n : Nat} {tk vl a6 : Nat → Int32}
/-- the loop of both -/
theorem bl_x (hc : CX tp z n tk vl A1 a6) {d x : Nat} {rs rt r8} (hP : RDS tp z n tk vl J J1 B B1 A1 a6 4 d (sX3_readPlain_F rs rt (nI x)) (sX8_readPlain_F r8 (nI x))) {k0 s0 l0 : Nat} (hs0 : 4 * s0 ≤ 8 * l0 + st8 tp z k0) : ∀ (f f8 c k s l : Nat) (I : Nat → Int32) (A : Nat → Nat → Int32) (I1 : Nat → Int32), n < k + f → n < k + f8 → c + 1 ≤ k → A 6 = a6 → SS tp z n tk vl k s l I I1 → k0 < k → s0 < s → 4 * s + 4 + (8 * l0 + st8 tp z k0) ≤ 4 * s0 + (8 * l + st8 tp z k) → (∀ w : Nat → Int32, (∀ i, 2 * s0 ≤ i → i < 2 * s → w i = A 89 i) → TRE tk vl w 5 d k0 s0 k s) → ∃ r I2 A2 I3, lX3_readBoth_8 rs rt f (nI x) 1 (nI c) I J A B = some (r, I2, A2) ∧ lX8_readBoth_5 r8 f8 (nI x) I1 J1 A1 B1 = some I3 ∧ FF I A I1 I2 A2 I3 ∧ ((r = 1 ∧ GX tp z n tk vl 5 d k0 s0 l0 A I2 A2 I3) ∨ (r = 0 ∧ DDp z I2 I3)) := by
  intro f
  induction f with
  | zero => intro f8 c k s l I A I1 h1 h2 h3 h4 hS; exact absurd hS.1 (by omega)
  | succ f ih =>
    intro f8 c k s l I A I1 hf hf8 hck h6 hS hk0 hss hsl hT
    have hS0 := hS
    obtain ⟨s1, s2, s3, s4, s5, s6, s7, s8⟩ := hS
    have hn : n ≤ 400 := Nat.le_trans hc.2.2.1.1 hc.1
    have hp := (st_b (tp := tp) (z := z) k).1
    have hz := hc.1
    have kd := (kd_t hc.2.2.1 s1 (fun i hi => (hc.2.1 i hi).1) s2)
    have mm := kd_o kd.1 (b := 6) (by decide) (by decide)
    obtain ⟨f8, rfl⟩ : ∃ g, f8 = g + 1 := ⟨f8 - 1, by omega⟩
    rw [lX3_readBoth_8, if_neg (show ¬ 400 ≤ nI c by rw [show (400 : Int32) = nI 400 from rfl, nn_le (by decide) (by omega)]; omega), if_neg (show ¬ (1 : Int32) = 0 by decide), lX8_readBoth_5]
    dsimp only [gv]
    by_cases hbk : tk k = 6
    · have hk : k < n := by
        by_cases e : k = n
        · rw [(kd.2.1 e).2] at hbk
          exact absurd hbk (by decide)
        · omega
      have hst := st_s hc hk
      rw [if_pos (show I 84 = 261 from mm.mpr hbk), ta_1 s8 s6 (by omega) (by rw [hc.2.2.2.1]; exact hbk), nI_1]
      dsimp only [Option.bind_some]
      rw [if_neg (show ¬ (1 : Int32) = 0 by decide)]
      obtain ⟨A3, w1, w2, w3, w4, w5⟩ := wr_1 (J := J) (A := A) (B := B) (x := 261) (y := 0) s5 (show s < 200 by omega)
      obtain ⟨Ia, a1, a2, a3⟩ := av_x (I := upd I 90 (nI (2 * (s + 1)))) (J := J) (B := B) (A := A3) hc ((w5 6 (by decide)).trans h6) (at_c s2 (fun x h1 h2 => upd_n _ _ (by omega))) hk
      obtain ⟨r, Ib, Ab, Ic, b1, b2, b3, b4⟩ := hP (k + 1) (s + 1) l Ia A3 (upd I1 26 (nI (k + 1))) ((w5 6 (by decide)).trans h6) ⟨hk, a2, by rw [a3 86 (by decide) (by decide) (by decide) (by decide), upd_n _ _ (by decide)]; exact s3, s4, by rw [a3 90 (by decide) (by decide) (by decide) (by decide), upd_s], upd_s _ _ _, (upd_n _ _ (by decide)).trans s7, (upd_n _ _ (by decide)).trans s8⟩ (by omega)
      have f0 : FF I A I1 Ib Ab Ic := ff_t (A2 := A3) (I2 := Ia) (I3 := upd I1 26 (nI (k + 1))) ⟨fun x h1 h2 h3 h4 _ h9 => by rw [a3 x h1 h2 h3 h4, upd_n _ _ h9], w5, fun x h1 _ _ => upd_n _ _ h1⟩ b3
      obtain ⟨A4, v1, v2, v3, v4⟩ := la_1 (I := Ib) (J := J) (A := Ab) (B := B) (s := s) (show s < 200 by omega)
      rw [w1]
      dsimp only [Option.bind_some]
      rw [a1]
      dsimp only [Option.bind_some]
      rw [b1, b2, s5]
      dsimp only [Option.bind_some]
      rw [v1]
      dsimp only [Option.bind_some]
      have f1 : FF I A I1 Ib A4 Ic := ff_t f0 ⟨fun _ _ _ _ _ _ _ => rfl, v4, fun _ _ _ _ => rfl⟩
      rcases b4 with ⟨rfl, k', s', l', g1, g2, g3, g4, g5, g6, g7⟩ | ⟨rfl, p, w, d1, d2, d3, d4, d5⟩
      · have g4 : 4 * s' + 4 + (8 * l + st8 tp z (k + 1)) ≤ 4 * (s + 1) + (8 * l' + st8 tp z k') := g4
        have e90 : Ib 90 = nI (2 * s') := g1.2.2.2.2.1
        obtain ⟨r, I2, A2, I3, i1, i2, i3, i4⟩ := ih f8 (c + 1) k' s' l' Ib A4 Ic (by omega) (by omega) (by omega) ((f1.2.1 6 (by decide)).trans h6) g1 (by omega) (by omega) (by omega) (fun w hw => tr_bo1 (hT w (fun i h1 h2 => by rw [hw i h1 (by omega), v3 i (by omega), g5 i (by omega), w4 i (by omega) (by omega)])) hbk (by rw [hw (2 * s) (by omega) (by omega), v3 _ (by omega), g5 _ (by omega), w2]) (g7 w (fun i h1 h2 => by rw [hw i (by omega) (by omega), v3 i (by omega)])) (by rw [hw (2 * s + 1) (by omega) (by omega), v2, e90]))
        refine ⟨r, I2, A2, I3, i1, i2, ff_t f1 i3, ?_⟩
        rcases i4 with ⟨q, k2, s2', l2, j1, j2, j3, j4, j5, j6, j7⟩ | q
        · exact Or.inl ⟨q, k2, s2', l2, j1, j2, j3, j4, fun i hi => by rw [j5 i hi, v3 i (by omega), g5 i (by omega), w4 i (by omega) (by omega)], j6, j7⟩
        · exact Or.inr q
      · obtain ⟨f, rfl⟩ : ∃ g, f = g + 1 := ⟨f - 1, by omega⟩
        obtain ⟨f8, rfl⟩ : ∃ g, f8 = g + 1 := ⟨f8 - 1, by omega⟩
        rw [lX3_readBoth_8, if_pos (show (0 : Int32) = 0 from rfl), ite_self, dd_bl d3 (by omega)]
        exact ⟨0, Ib, A4, Ic, rfl, rfl, f1, Or.inr ⟨rfl, p, w, d1, d2, d3, d4, d5⟩⟩
    · rw [if_neg (show ¬ I 84 = 261 from fun q => hbk (mm.mp q)), ta_0 s8 s6 (by omega) (by rw [hc.2.2.2.1]; exact hbk)]
      dsimp only [Option.bind_some]
      rw [if_pos rfl]
      exact ⟨1, I, A, I1, rfl, rfl, ff_r, Or.inl ⟨rfl, k, s, l, hS0, hk0, hss, hsl, fun _ _ => rfl, ⟨fun h => by omega, fun h => by omega, fun _ => hbk, fun h => by omega⟩, hT⟩⟩
/-- both -/
theorem rd_b (hc : CX tp z n tk vl A1 a6) {d x : Nat} {rs rt r8} (hP : RDS tp z n tk vl J J1 B B1 A1 a6 4 d (sX3_readPlain_F rs rt (nI x)) (sX8_readPlain_F r8 (nI x))) : RDS tp z n tk vl J J1 B B1 A1 a6 5 d (sX3_readBoth_F rs rt (nI x)) (sX8_readBoth_F r8 (nI x)) := by
  intro k s l I A I1 h6 hS hs
  have hn : n ≤ 400 := Nat.le_trans hc.2.2.1.1 hc.1
  obtain ⟨r, Ib, Ab, Ic, b1, b2, b3, b4⟩ := hP k s l I A I1 h6 hS hs
  unfold sX3_readBoth_F sX8_readBoth_F
  rw [b1, b2]
  dsimp only [Option.bind_some]
  rcases b4 with ⟨rfl, k', s', l', g1, g2, g3, g4, g5, g6, g7⟩ | ⟨rfl, p, w, d1, d2, d3, d4, d5⟩
  · obtain ⟨r, I2, A2, I3, i1, i2, i3, i4⟩ := bl_x hc hP hs FU FU 0 k' s' l' Ib Ab Ic (by unfold FU; omega) (by unfold FU; omega) (by omega) ((b3.2.1 6 (by decide)).trans h6) g1 g2 g3 g4 (fun w hw => tr_bo0 (g7 w hw))
    have i1 : lX3_readBoth_8 rs rt FU (nI x) 1 0 Ib J Ab B = some (r, I2, A2) := i1
    rw [i1, i2]
    dsimp only [Option.bind_some]
    refine ⟨r, I2, A2, I3, ?_, rfl, ff_t b3 i3, ?_⟩
    · rcases i4 with ⟨rfl, -⟩ | ⟨rfl, -⟩ <;> rfl
    · rcases i4 with ⟨q, k2, s2', l2, j1, j2, j3, j4, j5, j6, j7⟩ | q
      · exact Or.inl ⟨q, k2, s2', l2, j1, j2, j3, j4, fun i hi => by rw [j5 i hi, g5 i hi], j6, j7⟩
      · exact Or.inr q
  · rw [show FU = 999999 + 1 from rfl, lX3_readBoth_8, if_pos (show (0 : Int32) = 0 from rfl), ite_self, dd_bl d3 (by have := hc.1; omega)]
    exact ⟨0, Ib, Ab, Ic, rfl, rfl, b3, Or.inr ⟨rfl, p, w, d1, d2, d3, d4, d5⟩⟩
/-- the loop of a test -/
theorem el_x (hc : CX tp z n tk vl A1 a6) {d x : Nat} {rs rt r8} (hP : RDS tp z n tk vl J J1 B B1 A1 a6 5 d (sX3_readBoth_F rs rt (nI x)) (sX8_readBoth_F r8 (nI x))) {k0 s0 l0 : Nat} (hs0 : 4 * s0 ≤ 8 * l0 + st8 tp z k0) : ∀ (f f8 c k s l : Nat) (I : Nat → Int32) (A : Nat → Nat → Int32) (I1 : Nat → Int32), n < k + f → n < k + f8 → c + 1 ≤ k → A 6 = a6 → SS tp z n tk vl k s l I I1 → k0 < k → s0 < s → 4 * s + 4 + (8 * l0 + st8 tp z k0) ≤ 4 * s0 + (8 * l + st8 tp z k) → ¬ tk k = 6 → (∀ w : Nat → Int32, (∀ i, 2 * s0 ≤ i → i < 2 * s → w i = A 89 i) → TRE tk vl w 6 d k0 s0 k s) → ∃ r I2 A2 I3, lX3_readTest_8 rs rt f (nI x) 1 (nI c) I J A B = some (r, I2, A2) ∧ lX8_readTest_5 r8 f8 (nI x) I1 J1 A1 B1 = some I3 ∧ FF I A I1 I2 A2 I3 ∧ ((r = 1 ∧ GX tp z n tk vl 6 d k0 s0 l0 A I2 A2 I3) ∨ (r = 0 ∧ DDp z I2 I3)) := by
  intro f
  induction f with
  | zero => intro f8 c k s l I A I1 h1 h2 h3 h4 hS; exact absurd hS.1 (by omega)
  | succ f ih =>
    intro f8 c k s l I A I1 hf hf8 hck h6 hS hk0 hss hsl hcl hT
    have hS0 := hS
    obtain ⟨s1, s2, s3, s4, s5, s6, s7, s8⟩ := hS
    have hn : n ≤ 400 := Nat.le_trans hc.2.2.1.1 hc.1
    have hp := (st_b (tp := tp) (z := z) k).1
    have hz := hc.1
    have kd := (kd_t hc.2.2.1 s1 (fun i hi => (hc.2.1 i hi).1) s2)
    have mm := kd_o kd.1 (b := 5) (by decide) (by decide)
    obtain ⟨f8, rfl⟩ : ∃ g, f8 = g + 1 := ⟨f8 - 1, by omega⟩
    rw [lX3_readTest_8, if_neg (show ¬ 400 ≤ nI c by rw [show (400 : Int32) = nI 400 from rfl, nn_le (by decide) (by omega)]; omega), if_neg (show ¬ (1 : Int32) = 0 by decide), lX8_readTest_5]
    dsimp only [gv]
    by_cases hbk : tk k = 5
    · have hk : k < n := by
        by_cases e : k = n
        · rw [(kd.2.1 e).2] at hbk
          exact absurd hbk (by decide)
        · omega
      have hst := st_s hc hk
      rw [if_pos (show I 84 = 260 from mm.mpr hbk), ta_1 s8 s6 (by omega) (by rw [hc.2.2.2.1]; exact hbk), nI_1]
      dsimp only [Option.bind_some]
      rw [if_neg (show ¬ (1 : Int32) = 0 by decide)]
      obtain ⟨A3, w1, w2, w3, w4, w5⟩ := wr_1 (J := J) (A := A) (B := B) (x := 260) (y := 0) s5 (show s < 200 by omega)
      obtain ⟨Ia, a1, a2, a3⟩ := av_x (I := upd I 90 (nI (2 * (s + 1)))) (J := J) (B := B) (A := A3) hc ((w5 6 (by decide)).trans h6) (at_c s2 (fun x h1 h2 => upd_n _ _ (by omega))) hk
      obtain ⟨r, Ib, Ab, Ic, b1, b2, b3, b4⟩ := hP (k + 1) (s + 1) l Ia A3 (upd I1 26 (nI (k + 1))) ((w5 6 (by decide)).trans h6) ⟨hk, a2, by rw [a3 86 (by decide) (by decide) (by decide) (by decide), upd_n _ _ (by decide)]; exact s3, s4, by rw [a3 90 (by decide) (by decide) (by decide) (by decide), upd_s], upd_s _ _ _, (upd_n _ _ (by decide)).trans s7, (upd_n _ _ (by decide)).trans s8⟩ (by omega)
      have f0 : FF I A I1 Ib Ab Ic := ff_t (A2 := A3) (I2 := Ia) (I3 := upd I1 26 (nI (k + 1))) ⟨fun x h1 h2 h3 h4 _ h9 => by rw [a3 x h1 h2 h3 h4, upd_n _ _ h9], w5, fun x h1 _ _ => upd_n _ _ h1⟩ b3
      obtain ⟨A4, v1, v2, v3, v4⟩ := la_1 (I := Ib) (J := J) (A := Ab) (B := B) (s := s) (show s < 200 by omega)
      rw [w1]
      dsimp only [Option.bind_some]
      rw [a1]
      dsimp only [Option.bind_some]
      rw [b1, b2, s5]
      dsimp only [Option.bind_some]
      rw [v1]
      dsimp only [Option.bind_some]
      have f1 : FF I A I1 Ib A4 Ic := ff_t f0 ⟨fun _ _ _ _ _ _ _ => rfl, v4, fun _ _ _ _ => rfl⟩
      rcases b4 with ⟨rfl, k', s', l', g1, g2, g3, g4, g5, g6, g7⟩ | ⟨rfl, p, w, d1, d2, d3, d4, d5⟩
      · have g4 : 4 * s' + 4 + (8 * l + st8 tp z (k + 1)) ≤ 4 * (s + 1) + (8 * l' + st8 tp z k') := g4
        have e90 : Ib 90 = nI (2 * s') := g1.2.2.2.2.1
        obtain ⟨r, I2, A2, I3, i1, i2, i3, i4⟩ := ih f8 (c + 1) k' s' l' Ib A4 Ic (by omega) (by omega) (by omega) ((f1.2.1 6 (by decide)).trans h6) g1 (by omega) (by omega) (by omega) (g6.2.2.1 (Or.inl rfl)) (fun w hw => tr_te1 (hT w (fun i h1 h2 => by rw [hw i h1 (by omega), v3 i (by omega), g5 i (by omega), w4 i (by omega) (by omega)])) hbk (by rw [hw (2 * s) (by omega) (by omega), v3 _ (by omega), g5 _ (by omega), w2]) (g7 w (fun i h1 h2 => by rw [hw i (by omega) (by omega), v3 i (by omega)])) (g6.2.2.1 (Or.inl rfl)) (by rw [hw (2 * s + 1) (by omega) (by omega), v2, e90]))
        refine ⟨r, I2, A2, I3, i1, i2, ff_t f1 i3, ?_⟩
        rcases i4 with ⟨q, k2, s2', l2, j1, j2, j3, j4, j5, j6, j7⟩ | q
        · exact Or.inl ⟨q, k2, s2', l2, j1, j2, j3, j4, fun i hi => by rw [j5 i hi, v3 i (by omega), g5 i (by omega), w4 i (by omega) (by omega)], j6, j7⟩
        · exact Or.inr q
      · obtain ⟨f, rfl⟩ : ∃ g, f = g + 1 := ⟨f - 1, by omega⟩
        obtain ⟨f8, rfl⟩ : ∃ g, f8 = g + 1 := ⟨f8 - 1, by omega⟩
        rw [lX3_readTest_8, if_pos (show (0 : Int32) = 0 from rfl), ite_self, dd_el d3 (by omega)]
        exact ⟨0, Ib, A4, Ic, rfl, rfl, f1, Or.inr ⟨rfl, p, w, d1, d2, d3, d4, d5⟩⟩
    · rw [if_neg (show ¬ I 84 = 260 from fun q => hbk (mm.mp q)), ta_0 s8 s6 (by omega) (by rw [hc.2.2.2.1]; exact hbk)]
      dsimp only [Option.bind_some]
      rw [if_pos rfl]
      exact ⟨1, I, A, I1, rfl, rfl, ff_r, Or.inl ⟨rfl, k, s, l, hS0, hk0, hss, hsl, fun _ _ => rfl, ⟨fun h => by omega, fun h => by omega, fun _ => hcl, fun _ => hbk⟩, hT⟩⟩
/-- a test -/
theorem rd_e (hc : CX tp z n tk vl A1 a6) {d x : Nat} {rs rt r8} (hP : RDS tp z n tk vl J J1 B B1 A1 a6 5 d (sX3_readBoth_F rs rt (nI x)) (sX8_readBoth_F r8 (nI x))) : RDS tp z n tk vl J J1 B B1 A1 a6 6 d (sX3_readTest_F rs rt (nI x)) (sX8_readTest_F r8 (nI x)) := by
  intro k s l I A I1 h6 hS hs
  have hn : n ≤ 400 := Nat.le_trans hc.2.2.1.1 hc.1
  obtain ⟨r, Ib, Ab, Ic, b1, b2, b3, b4⟩ := hP k s l I A I1 h6 hS hs
  unfold sX3_readTest_F sX8_readTest_F
  rw [b1, b2]
  dsimp only [Option.bind_some]
  rcases b4 with ⟨rfl, k', s', l', g1, g2, g3, g4, g5, g6, g7⟩ | ⟨rfl, p, w, d1, d2, d3, d4, d5⟩
  · obtain ⟨r, I2, A2, I3, i1, i2, i3, i4⟩ := el_x hc hP hs FU FU 0 k' s' l' Ib Ab Ic (by unfold FU; omega) (by unfold FU; omega) (by omega) ((b3.2.1 6 (by decide)).trans h6) g1 g2 g3 g4 (g6.2.2.1 (Or.inl rfl)) (fun w hw => tr_te0 (g7 w hw) (g6.2.2.1 (Or.inl rfl)))
    have i1 : lX3_readTest_8 rs rt FU (nI x) 1 0 Ib J Ab B = some (r, I2, A2) := i1
    rw [i1, i2]
    dsimp only [Option.bind_some]
    refine ⟨r, I2, A2, I3, ?_, rfl, ff_t b3 i3, ?_⟩
    · rcases i4 with ⟨rfl, -⟩ | ⟨rfl, -⟩ <;> rfl
    · rcases i4 with ⟨q, k2, s2', l2, j1, j2, j3, j4, j5, j6, j7⟩ | q
      · exact Or.inl ⟨q, k2, s2', l2, j1, j2, j3, j4, fun i hi => by rw [j5 i hi, g5 i hi], j6, j7⟩
      · exact Or.inr q
  · rw [show FU = 999999 + 1 from rfl, lX3_readTest_8, if_pos (show (0 : Int32) = 0 from rfl), ite_self, dd_el d3 (by have := hc.1; omega)]
    exact ⟨0, Ib, Ab, Ic, rfl, rfl, b3, Or.inr ⟨rfl, p, w, d1, d2, d3, d4, d5⟩⟩
/-- every test -/
theorem rt_all (hc : CX tp z n tk vl A1 a6) : ∀ (m x : Nat), x ≤ 8 → x + m = 9 → RDS tp z n tk vl J J1 B B1 A1 a6 6 m (sX3_readTest_F (rX3 m).1 (rX3 m).2 (nI x)) (sX8_readTest_F (sX8_readTest m) (nI x)) := by
  intro m
  induction m with
  | zero => intro x h1 h2; omega
  | succ m ih =>
    intro x h1 h2
    exact rd_e hc (rd_b hc (rd_pl hc (rd_po hc h1 (by omega) (rs_all hc (m + 1) 9 x h1 h2 (by omega)) (fun h => ih (x + 1) (by omega) (by omega)))))
/-- a sum and a test as a clause reads them -/
theorem rs_top (hc : CX tp z n tk vl A1 a6) : RDS tp z n tk vl J J1 B B1 A1 a6 2 9 (sX3_readSum 10 0) (sX8_readSum 10 0) := rs_all hc 9 9 0 (by decide) (by decide) (by decide)
theorem rt_top (hc : CX tp z n tk vl A1 a6) : RDS tp z n tk vl J J1 B B1 A1 a6 6 9 (sX3_readTest 10 0) (sX8_readTest 10 0) := rt_all hc 9 0 (by decide) (by decide)
end Y4
