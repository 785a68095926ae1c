section Y1
variable {I I1 : Nat → Int32} {J J1 : Nat → Int64} {A A1 : Nat → Nat → Int32} {B B1 : Nat → Nat → Int64} {tp : Nat → Nat} {z n : Nat} {tk vl a6 : Nat → Int32}
/-- the loop of a term -/
theorem tl_x (hc : CX tp z n tk vl A1 a6) {d x : Nat} {rs rt r8} (hP : RDS tp z n tk vl J J1 B B1 A1 a6 0 d (sX3_readPart_F rs rt (nI x)) (sX8_readPart_F r8 (nI x))) {k0 s0 l0 : Nat} (hs0 : 4 * s0 ≤ 8 * l0 + st8 tp z k0) : ∀ (f f8 c k s l : Nat) (I : Nat → Int32) (A : Nat → Nat → Int32) (I1 : Nat → Int32), n < k + f → n < k + f8 → c + 1 ≤ k → A 6 = a6 → SS tp z n tk vl k s l I I1 → k0 < k → s0 < s → 4 * s + 5 + (8 * l0 + st8 tp z k0) ≤ 4 * s0 + (8 * l + st8 tp z k) → (∀ w : Nat → Int32, (∀ i, 2 * s0 ≤ i → i < 2 * s → w i = A 89 i) → TRE tk vl w 1 d k0 s0 k s) → ∃ r I2 A2 I3, lX3_readTerm_8 rs rt f (nI x) 1 (nI c) I J A B = some (r, I2, A2) ∧ lX8_readTerm_5 r8 f8 (nI x) I1 J1 A1 B1 = some I3 ∧ FF I A I1 I2 A2 I3 ∧ ((r = 1 ∧ GX tp z n tk vl 1 d k0 s0 l0 A I2 A2 I3) ∨ (r = 0 ∧ DDp z I2 I3)) := by
  intro f
  induction f with
  | zero => intro f8 c k s l I A I1 h1 h2 h3 h4 hS; exact absurd hS.1 (by omega)
  | succ f ih =>
    intro f8 c k s l I A I1 hf hf8 hck h6 hS hk0 hss hsl hT
    have hS0 := hS
    obtain ⟨s1, s2, s3, s4, s5, s6, s7, s8⟩ := hS
    have hn : n ≤ 400 := Nat.le_trans hc.2.2.1.1 hc.1
    have hp := (st_b (tp := tp) (z := z) k).1
    have hz := hc.1
    have kd := (kd_t hc.2.2.1 s1 (fun i hi => (hc.2.1 i hi).1) s2)
    obtain ⟨f8, rfl⟩ : ∃ g, f8 = g + 1 := ⟨f8 - 1, by omega⟩
    rw [lX3_readTerm_8, if_neg (show ¬ 400 ≤ nI c by rw [show (400 : Int32) = nI 400 from rfl, nn_le (by decide) (by omega)]; omega), if_neg (show ¬ (1 : Int32) = 0 by decide), lX8_readTerm_5]
    unfold sX8_sign
    dsimp only [gv, Option.bind_some]
    rw [show (100 : Int32) + 42 = nI (100 + 42) from rfl, show (100 : Int32) + 47 = nI (100 + 47) from rfl, nI_1]
    have step : ∀ b, b = 42 ∨ b = 47 → tk k = nI (100 + b) → ∃ r I2 A2 I3, ((sX3_advance I J A B).bind fun I' => (sX3_readPart_F rs rt (nI x) I' J A B).bind fun a => (sX3_write (I 84) 0 a.2.1 J a.2.2 B).bind fun b => lX3_readTerm_8 rs rt f (nI x) a.1 (nI (c + 1)) b.1 J b.2 B) = some (r, I2, A2) ∧ ((sX8_readPart_F r8 (nI x) (upd I1 26 (nI (k + 1))) J1 A1 B1).bind fun I => lX8_readTerm_5 r8 f8 (nI x) I J1 A1 B1) = some I3 ∧ FF I A I1 I2 A2 I3 ∧ ((r = 1 ∧ GX tp z n tk vl 1 d k0 s0 l0 A I2 A2 I3) ∨ (r = 0 ∧ DDp z I2 I3)) := by
      intro b hb hbk
      have hk : k < n := by
        by_cases e : k = n
        · rw [(kd.2.1 e).2, show (0 : Int32) = nI 0 from rfl, nI_eq (by decide) (by omega)] at hbk
          omega
        · omega
      have hst := st_s hc hk
      have e84 : I 84 = nI b := (kd_b kd.1 (by omega)).mpr hbk
      obtain ⟨Ia, a1, a2, a3⟩ := av_x (J := J) (B := B) hc h6 s2 hk
      obtain ⟨r, Ib, Ab, Ic, b1, b2, b3, b4⟩ := hP (k + 1) s l Ia A (upd I1 26 (nI (k + 1))) h6 ⟨hk, a2, by rw [a3 86 (by decide) (by decide) (by decide) (by decide)]; exact s3, s4, by rw [a3 90 (by decide) (by decide) (by decide) (by decide)]; exact s5, upd_s _ _ _, (upd_n _ _ (by decide)).trans s7, (upd_n _ _ (by decide)).trans s8⟩ (by omega)
      have f0 : FF I A I1 Ib Ab Ic := ff_t (A2 := A) (I2 := Ia) (I3 := upd I1 26 (nI (k + 1))) ⟨fun x h1 h2 h3 h4 _ _ => a3 x h1 h2 h3 h4, fun _ _ => rfl, fun x h1 _ _ => upd_n _ _ h1⟩ b3
      rw [a1]
      dsimp only [Option.bind_some]
      rw [b1, b2]
      dsimp only [Option.bind_some]
      rcases b4 with ⟨rfl, k', s', l', g1, g2, g3, g4, g5, g6, g7⟩ | ⟨rfl, p, w, d1, d2, d3, d4, d5⟩
      · obtain ⟨t1, t2, t3, t4, t5, t6, t7, t8⟩ := g1
        have g4 : 4 * s' + 5 + (8 * l + st8 tp z (k + 1)) ≤ 4 * s + (8 * l' + st8 tp z k') := g4
        have hp' := (st_b (tp := tp) (z := z) k').1
        obtain ⟨A3, w1, w2, w3, w4, w5⟩ := wr_1 (J := J) (A := Ab) (B := B) (x := I 84) (y := 0) t5 (show s' < 200 by omega)
        rw [w1]
        dsimp only [Option.bind_some]
        obtain ⟨r, I2, A2, I3, i1, i2, i3, i4⟩ := ih f8 (c + 1) k' (s' + 1) l' (upd Ib 90 (nI (2 * (s' + 1)))) A3 Ic (by omega) (by omega) (by omega) (((w5 6 (by decide)).trans (b3.2.1 6 (by decide))).trans h6) ⟨t1, at_c t2 (fun x h1 h2 => upd_n _ _ (by omega)), (upd_n _ _ (by decide)).trans t3, t4, upd_s _ _ _, t6, t7, t8⟩ (by omega) (by omega) (by omega) (fun w hw => tr_tm1 (hT w (fun i h1 h2 => by rw [hw i h1 (by omega), w4 i (by omega) (by omega), g5 i h2])) hb hbk (g7 w (fun i h1 h2 => by rw [hw i (by omega) (by omega), w4 i (by omega) (by omega)])) (by rw [hw (2 * s') (by omega) (by omega), w2, e84]))
        refine ⟨r, I2, A2, I3, i1, i2, ff_t f0 (ff_t (I2 := upd Ib 90 (nI (2 * (s' + 1)))) (A2 := A3) (I3 := Ic) ⟨fun x _ _ _ _ _ h => upd_n _ _ h, w5, fun _ _ _ _ => rfl⟩ i3), ?_⟩
        rcases i4 with ⟨q, k2, s2', l2, j1, j2, j3, j4, j5, j6, j7⟩ | q
        · exact Or.inl ⟨q, k2, s2', l2, j1, j2, j3, j4, fun i hi => by rw [j5 i hi, w4 i (by omega) (by omega), g5 i (by omega)], j6, j7⟩
        · exact Or.inr q
      · obtain ⟨I3, A3, w', w1, w2, w3, w4, w5⟩ := wr_g (J := J) (A := Ab) (B := B) (x := I 84) (y := 0) d4 d5
        rw [w1]
        dsimp only [Option.bind_some]
        obtain ⟨f, rfl⟩ : ∃ g, f = g + 1 := ⟨f - 1, by omega⟩
        obtain ⟨f8, rfl⟩ : ∃ g, f8 = g + 1 := ⟨f8 - 1, by omega⟩
        rw [lX3_readTerm_8, if_pos (show (0 : Int32) = 0 from rfl), ite_self, dd_tl d3 (by omega)]
        exact ⟨0, I3, A3, Ic, rfl, rfl, ff_t f0 ⟨fun x _ _ _ _ _ h => w2 x h, w5, fun _ _ _ _ => rfl⟩, Or.inr ⟨rfl, p, w', d1, (w2 80 (by decide)).trans d2, d3, w3, w4⟩⟩
    by_cases c1 : tk k = nI (100 + 42)
    · obtain ⟨r, I2, A2, I3, q1, q2, q3, q4⟩ := step 42 (Or.inl rfl) c1
      refine ⟨r, I2, A2, I3, ?_, ?_, q3, q4⟩
      · rw [if_pos (show I 84 = 42 from (kd_b kd.1 (b := 42) (by decide)).mpr c1)]
        exact q1
      · rw [ta_1 s8 s6 (by omega) (by rw [hc.2.2.2.1]; exact c1)]
        dsimp only [Option.bind_some]
        rw [if_neg (by decide)]
        exact q2
    · by_cases c2 : tk k = nI (100 + 47)
      · obtain ⟨r, I2, A2, I3, q1, q2, q3, q4⟩ := step 47 (Or.inr rfl) c2
        refine ⟨r, I2, A2, I3, ?_, ?_, q3, q4⟩
        · rw [if_neg (show ¬ I 84 = 42 from fun q => c1 ((kd_b kd.1 (b := 42) (by decide)).mp q)), if_pos (show I 84 = 47 from (kd_b kd.1 (b := 47) (by decide)).mpr c2)]
          exact q1
        · rw [ta_0 s8 s6 (by omega) (by rw [hc.2.2.2.1]; exact c1)]
          dsimp only [Option.bind_some]
          rw [if_pos rfl, ta_1 s8 s6 (by omega) (by rw [hc.2.2.2.1]; exact c2)]
          dsimp only [Option.bind_some]
          rw [if_neg (by decide)]
          exact q2
      · rw [if_neg (show ¬ I 84 = 42 from fun q => c1 ((kd_b kd.1 (b := 42) (by decide)).mp q)), if_neg (show ¬ I 84 = 47 from fun q => c2 ((kd_b kd.1 (b := 47) (by decide)).mp q)), ta_0 s8 s6 (by omega) (by rw [hc.2.2.2.1]; exact c1)]
        dsimp only [Option.bind_some]
        rw [if_pos rfl, ta_0 s8 s6 (by omega) (by rw [hc.2.2.2.1]; exact c2)]
        dsimp only [Option.bind_some]
        rw [if_pos rfl]
        exact ⟨1, I, A, I1, rfl, rfl, ff_r, Or.inl ⟨rfl, k, s, l, hS0, hk0, hss, hsl, fun _ _ => rfl, ⟨fun _ => ⟨c1, c2⟩, fun h => by omega, fun h => by omega, fun h => by omega⟩, hT⟩⟩
/-- a term -/
theorem rd_t (hc : CX tp z n tk vl A1 a6) {d x : Nat} {rs rt r8} (hP : RDS tp z n tk vl J J1 B B1 A1 a6 0 d (sX3_readPart_F rs rt (nI x)) (sX8_readPart_F r8 (nI x))) : RDS tp z n tk vl J J1 B B1 A1 a6 1 d (sX3_readTerm_F rs rt (nI x)) (sX8_readTerm_F r8 (nI x)) := by
  intro k s l I A I1 h6 hS hs
  have hn : n ≤ 400 := Nat.le_trans hc.2.2.1.1 hc.1
  obtain ⟨r, Ib, Ab, Ic, b1, b2, b3, b4⟩ := hP k s l I A I1 h6 hS hs
  unfold sX3_readTerm_F sX8_readTerm_F
  rw [b1, b2]
  dsimp only [Option.bind_some]
  rcases b4 with ⟨rfl, k', s', l', g1, g2, g3, g4, g5, g6, g7⟩ | ⟨rfl, p, w, d1, d2, d3, d4, d5⟩
  · obtain ⟨r, I2, A2, I3, i1, i2, i3, i4⟩ := tl_x hc hP hs FU FU 0 k' s' l' Ib Ab Ic (by unfold FU; omega) (by unfold FU; omega) (by omega) ((b3.2.1 6 (by decide)).trans h6) g1 g2 g3 g4 (fun w hw => tr_tm0 (g7 w hw))
    have i1 : lX3_readTerm_8 rs rt FU (nI x) 1 0 Ib J Ab B = some (r, I2, A2) := i1
    rw [i1, i2]
    dsimp only [Option.bind_some]
    refine ⟨r, I2, A2, I3, ?_, rfl, ff_t b3 i3, ?_⟩
    · rcases i4 with ⟨rfl, -⟩ | ⟨rfl, -⟩ <;> rfl
    · rcases i4 with ⟨q, k2, s2', l2, j1, j2, j3, j4, j5, j6, j7⟩ | q
      · exact Or.inl ⟨q, k2, s2', l2, j1, j2, j3, j4, fun i hi => by rw [j5 i hi, g5 i hi], j6, j7⟩
      · exact Or.inr q
  · rw [show FU = 999999 + 1 from rfl, lX3_readTerm_8, if_pos (show (0 : Int32) = 0 from rfl), ite_self, dd_tl d3 (by have := hc.1; omega)]
    exact ⟨0, Ib, Ab, Ic, rfl, rfl, b3, Or.inr ⟨rfl, p, w, d1, d2, d3, d4, d5⟩⟩
/-- the loop of a sum -/
theorem sl_x (hc : CX tp z n tk vl A1 a6) {d x : Nat} {rs rt r8} (hP : RDS tp z n tk vl J J1 B B1 A1 a6 1 d (sX3_readTerm_F rs rt (nI x)) (sX8_readTerm_F r8 (nI x))) {k0 s0 l0 : Nat} (hs0 : 4 * s0 ≤ 8 * l0 + st8 tp z k0) : ∀ (f f8 c k s l : Nat) (I : Nat → Int32) (A : Nat → Nat → Int32) (I1 : Nat → Int32), n < k + f → n < k + f8 → c + 1 ≤ k → A 6 = a6 → SS tp z n tk vl k s l I I1 → k0 < k → s0 < s → 4 * s + 5 + (8 * l0 + st8 tp z k0) ≤ 4 * s0 + (8 * l + st8 tp z k) → ¬ tk k = nI 142 ∧ ¬ tk k = nI 147 → (∀ w : Nat → Int32, (∀ i, 2 * s0 ≤ i → i < 2 * s → w i = A 89 i) → TRE tk vl w 2 d k0 s0 k s) → ∃ r I2 A2 I3, lX3_readSum_8 rs rt f (nI x) 1 (nI c) I J A B = some (r, I2, A2) ∧ lX8_readSum_5 r8 f8 (nI x) I1 J1 A1 B1 = some I3 ∧ FF I A I1 I2 A2 I3 ∧ ((r = 1 ∧ GX tp z n tk vl 2 d k0 s0 l0 A I2 A2 I3) ∨ (r = 0 ∧ DDp z I2 I3)) := by
  intro f
  induction f with
  | zero => intro f8 c k s l I A I1 h1 h2 h3 h4 hS; exact absurd hS.1 (by omega)
  | succ f ih =>
    intro f8 c k s l I A I1 hf hf8 hck h6 hS hk0 hss hsl hcl hT
    have hS0 := hS
    obtain ⟨s1, s2, s3, s4, s5, s6, s7, s8⟩ := hS
    have hn : n ≤ 400 := Nat.le_trans hc.2.2.1.1 hc.1
    have hp := (st_b (tp := tp) (z := z) k).1
    have hz := hc.1
    have kd := (kd_t hc.2.2.1 s1 (fun i hi => (hc.2.1 i hi).1) s2)
    obtain ⟨f8, rfl⟩ : ∃ g, f8 = g + 1 := ⟨f8 - 1, by omega⟩
    rw [lX3_readSum_8, if_neg (show ¬ 400 ≤ nI c by rw [show (400 : Int32) = nI 400 from rfl, nn_le (by decide) (by omega)]; omega), if_neg (show ¬ (1 : Int32) = 0 by decide), lX8_readSum_5]
    unfold sX8_sign
    dsimp only [gv, Option.bind_some]
    rw [show (100 : Int32) + 43 = nI (100 + 43) from rfl, show (100 : Int32) + 45 = nI (100 + 45) from rfl, nI_1]
    have step : ∀ b, b = 43 ∨ b = 45 → tk k = nI (100 + b) → ∃ r I2 A2 I3, ((sX3_advance I J A B).bind fun I' => (sX3_readTerm_F rs rt (nI x) I' J A B).bind fun a => (sX3_write (I 84) 0 a.2.1 J a.2.2 B).bind fun b => lX3_readSum_8 rs rt f (nI x) a.1 (nI (c + 1)) b.1 J b.2 B) = some (r, I2, A2) ∧ ((sX8_readTerm_F r8 (nI x) (upd I1 26 (nI (k + 1))) J1 A1 B1).bind fun I => lX8_readSum_5 r8 f8 (nI x) I J1 A1 B1) = some I3 ∧ FF I A I1 I2 A2 I3 ∧ ((r = 1 ∧ GX tp z n tk vl 2 d k0 s0 l0 A I2 A2 I3) ∨ (r = 0 ∧ DDp z I2 I3)) := by
      intro b hb hbk
      have hk : k < n := by
        by_cases e : k = n
        · rw [(kd.2.1 e).2, show (0 : Int32) = nI 0 from rfl, nI_eq (by decide) (by omega)] at hbk
          omega
        · omega
      have hst := st_s hc hk
      have e84 : I 84 = nI b := (kd_b kd.1 (by omega)).mpr hbk
      obtain ⟨Ia, a1, a2, a3⟩ := av_x (J := J) (B := B) hc h6 s2 hk
      obtain ⟨r, Ib, Ab, Ic, b1, b2, b3, b4⟩ := hP (k + 1) s l Ia A (upd I1 26 (nI (k + 1))) h6 ⟨hk, a2, by rw [a3 86 (by decide) (by decide) (by decide) (by decide)]; exact s3, s4, by rw [a3 90 (by decide) (by decide) (by decide) (by decide)]; exact s5, upd_s _ _ _, (upd_n _ _ (by decide)).trans s7, (upd_n _ _ (by decide)).trans s8⟩ (by omega)
      have f0 : FF I A I1 Ib Ab Ic := ff_t (A2 := A) (I2 := Ia) (I3 := upd I1 26 (nI (k + 1))) ⟨fun x h1 h2 h3 h4 _ _ => a3 x h1 h2 h3 h4, fun _ _ => rfl, fun x h1 _ _ => upd_n _ _ h1⟩ b3
      rw [a1]
      dsimp only [Option.bind_some]
      rw [b1, b2]
      dsimp only [Option.bind_some]
      rcases b4 with ⟨rfl, k', s', l', g1, g2, g3, g4, g5, g6, g7⟩ | ⟨rfl, p, w, d1, d2, d3, d4, d5⟩
      · obtain ⟨t1, t2, t3, t4, t5, t6, t7, t8⟩ := g1
        have g4 : 4 * s' + 5 + (8 * l + st8 tp z (k + 1)) ≤ 4 * s + (8 * l' + st8 tp z k') := g4
        have hp' := (st_b (tp := tp) (z := z) k').1
        obtain ⟨A3, w1, w2, w3, w4, w5⟩ := wr_1 (J := J) (A := Ab) (B := B) (x := I 84) (y := 0) t5 (show s' < 200 by omega)
        rw [w1]
        dsimp only [Option.bind_some]
        obtain ⟨r, I2, A2, I3, i1, i2, i3, i4⟩ := ih f8 (c + 1) k' (s' + 1) l' (upd Ib 90 (nI (2 * (s' + 1)))) A3 Ic (by omega) (by omega) (by omega) (((w5 6 (by decide)).trans (b3.2.1 6 (by decide))).trans h6) ⟨t1, at_c t2 (fun x h1 h2 => upd_n _ _ (by omega)), (upd_n _ _ (by decide)).trans t3, t4, upd_s _ _ _, t6, t7, t8⟩ (by omega) (by omega) (by omega) (g6.1 (Or.inl rfl)) (fun w hw => tr_sm1 (hT w (fun i h1 h2 => by rw [hw i h1 (by omega), w4 i (by omega) (by omega), g5 i h2])) hb hbk (g7 w (fun i h1 h2 => by rw [hw i (by omega) (by omega), w4 i (by omega) (by omega)])) (g6.1 (Or.inl rfl)).1 (g6.1 (Or.inl rfl)).2 (by rw [hw (2 * s') (by omega) (by omega), w2, e84]))
        refine ⟨r, I2, A2, I3, i1, i2, ff_t f0 (ff_t (I2 := upd Ib 90 (nI (2 * (s' + 1)))) (A2 := A3) (I3 := Ic) ⟨fun x _ _ _ _ _ h => upd_n _ _ h, w5, fun _ _ _ _ => rfl⟩ i3), ?_⟩
        rcases i4 with ⟨q, k2, s2', l2, j1, j2, j3, j4, j5, j6, j7⟩ | q
        · exact Or.inl ⟨q, k2, s2', l2, j1, j2, j3, j4, fun i hi => by rw [j5 i hi, w4 i (by omega) (by omega), g5 i (by omega)], j6, j7⟩
        · exact Or.inr q
      · obtain ⟨I3, A3, w', w1, w2, w3, w4, w5⟩ := wr_g (J := J) (A := Ab) (B := B) (x := I 84) (y := 0) d4 d5
        rw [w1]
        dsimp only [Option.bind_some]
        obtain ⟨f, rfl⟩ : ∃ g, f = g + 1 := ⟨f - 1, by omega⟩
        obtain ⟨f8, rfl⟩ : ∃ g, f8 = g + 1 := ⟨f8 - 1, by omega⟩
        rw [lX3_readSum_8, if_pos (show (0 : Int32) = 0 from rfl), ite_self, dd_sl d3 (by omega)]
        exact ⟨0, I3, A3, Ic, rfl, rfl, ff_t f0 ⟨fun x _ _ _ _ _ h => w2 x h, w5, fun _ _ _ _ => rfl⟩, Or.inr ⟨rfl, p, w', d1, (w2 80 (by decide)).trans d2, d3, w3, w4⟩⟩
    by_cases c1 : tk k = nI (100 + 43)
    · obtain ⟨r, I2, A2, I3, q1, q2, q3, q4⟩ := step 43 (Or.inl rfl) c1
      refine ⟨r, I2, A2, I3, ?_, ?_, q3, q4⟩
      · rw [if_pos (show I 84 = 43 from (kd_b kd.1 (b := 43) (by decide)).mpr c1)]
        exact q1
      · rw [ta_1 s8 s6 (by omega) (by rw [hc.2.2.2.1]; exact c1)]
        dsimp only [Option.bind_some]
        rw [if_neg (by decide)]
        exact q2
    · by_cases c2 : tk k = nI (100 + 45)
      · obtain ⟨r, I2, A2, I3, q1, q2, q3, q4⟩ := step 45 (Or.inr rfl) c2
        refine ⟨r, I2, A2, I3, ?_, ?_, q3, q4⟩
        · rw [if_neg (show ¬ I 84 = 43 from fun q => c1 ((kd_b kd.1 (b := 43) (by decide)).mp q)), if_pos (show I 84 = 45 from (kd_b kd.1 (b := 45) (by decide)).mpr c2)]
          exact q1
        · rw [ta_0 s8 s6 (by omega) (by rw [hc.2.2.2.1]; exact c1)]
          dsimp only [Option.bind_some]
          rw [if_pos rfl, ta_1 s8 s6 (by omega) (by rw [hc.2.2.2.1]; exact c2)]
          dsimp only [Option.bind_some]
          rw [if_neg (by decide)]
          exact q2
      · rw [if_neg (show ¬ I 84 = 43 from fun q => c1 ((kd_b kd.1 (b := 43) (by decide)).mp q)), if_neg (show ¬ I 84 = 45 from fun q => c2 ((kd_b kd.1 (b := 45) (by decide)).mp q)), ta_0 s8 s6 (by omega) (by rw [hc.2.2.2.1]; exact c1)]
        dsimp only [Option.bind_some]
        rw [if_pos rfl, ta_0 s8 s6 (by omega) (by rw [hc.2.2.2.1]; exact c2)]
        dsimp only [Option.bind_some]
        rw [if_pos rfl]
        exact ⟨1, I, A, I1, rfl, rfl, ff_r, Or.inl ⟨rfl, k, s, l, hS0, hk0, hss, hsl, fun _ _ => rfl, ⟨fun _ => hcl, fun _ => ⟨c1, c2⟩, fun h => by omega, fun h => by omega⟩, hT⟩⟩
/-- a sum -/
theorem rd_s (hc : CX tp z n tk vl A1 a6) {d x : Nat} {rs rt r8} (hP : RDS tp z n tk vl J J1 B B1 A1 a6 1 d (sX3_readTerm_F rs rt (nI x)) (sX8_readTerm_F r8 (nI x))) : RDS tp z n tk vl J J1 B B1 A1 a6 2 d (sX3_readSum_F rs rt (nI x)) (sX8_readSum_F r8 (nI x)) := by
  intro k s l I A I1 h6 hS hs
  have hn : n ≤ 400 := Nat.le_trans hc.2.2.1.1 hc.1
  obtain ⟨r, Ib, Ab, Ic, b1, b2, b3, b4⟩ := hP k s l I A I1 h6 hS hs
  unfold sX3_readSum_F sX8_readSum_F
  rw [b1, b2]
  dsimp only [Option.bind_some]
  rcases b4 with ⟨rfl, k', s', l', g1, g2, g3, g4, g5, g6, g7⟩ | ⟨rfl, p, w, d1, d2, d3, d4, d5⟩
  · obtain ⟨r, I2, A2, I3, i1, i2, i3, i4⟩ := sl_x hc hP hs FU FU 0 k' s' l' Ib Ab Ic (by unfold FU; omega) (by unfold FU; omega) (by omega) ((b3.2.1 6 (by decide)).trans h6) g1 g2 g3 g4 (g6.1 (Or.inl rfl)) (fun w hw => tr_sm0 (g7 w hw) (g6.1 (Or.inl rfl)).1 (g6.1 (Or.inl rfl)).2)
    have i1 : lX3_readSum_8 rs rt FU (nI x) 1 0 Ib J Ab B = some (r, I2, A2) := i1
    rw [i1, i2]
    dsimp only [Option.bind_some]
    refine ⟨r, I2, A2, I3, ?_, rfl, ff_t b3 i3, ?_⟩
    · rcases i4 with ⟨rfl, -⟩ | ⟨rfl, -⟩ <;> rfl
    · rcases i4 with ⟨q, k2, s2', l2, j1, j2, j3, j4, j5, j6, j7⟩ | q
      · exact Or.inl ⟨q, k2, s2', l2, j1, j2, j3, j4, fun i hi => by rw [j5 i hi, g5 i hi], j6, j7⟩
      · exact Or.inr q
  · rw [show FU = 999999 + 1 from rfl, lX3_readSum_8, if_pos (show (0 : Int32) = 0 from rfl), ite_self, dd_sl d3 (by have := hc.1; omega)]
    exact ⟨0, Ib, Ab, Ic, rfl, rfl, b3, Or.inr ⟨rfl, p, w, d1, d2, d3, d4, d5⟩⟩
end Y1
