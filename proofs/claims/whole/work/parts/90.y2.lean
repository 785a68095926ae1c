/-- a comparison, the reference -/
def cmR (x1 : Int32) (I : Nat → Int32) (J : Nat → Int64) (A : Nat → Nat → Int32) (B : Nat → Nat → Int64) : Option (Nat → Int32) :=
  (sX8_readSum 10 x1 I J A B).bind fun I => (sX8_sign 60).bind fun r_117 => (sX8_takes r_117 I J A B).bind fun (r_120, I) => if r_120 = 0 then ((sX8_sign 62).bind fun r_129 => (sX8_takes r_129 I J A B).bind fun (r_132, I) => if r_132 = 0 then ((sX8_sign 61).bind fun r_141 => (sX8_must r_141 I J A B).bind fun I => (sX8_readSum 10 x1 I J A B).bind fun I => some I) else (sX8_readSum 10 x1 I J A B).bind fun I => some I) else (sX8_readSum 10 x1 I J A B).bind fun I => some I
section Y2
variable {I I1 : Nat → Int32} {J J1 : Nat → Int64} {A A1 : Nat → Nat → Int32} {B B1 : Nat → Nat → Int64} {tp : Nat → Nat} {z n : Nat} {tk vl a6 : Nat → Int32}
theorem sn_7 (hc : CX tp z n tk vl A1 a6) {k : Nat} (hk : k < n) (h : tk k = 7) : st8 tp z k + 3 ≤ st8 tp z (k + 1) := by
  obtain ⟨h1, h2⟩ := hc.2.2.1.2.2.1 k hk
  have h3 := st_m h1
  have hb := hc.2.1 _ h1
  rcases h2 with ⟨-, x, wx, c1, -⟩ | ⟨-, -, c1, -⟩ | ⟨-, -, c1, -⟩
  · have hx : x ≤ 21 := by rcases wx with ⟨-, w2, -⟩ | ⟨w1, -⟩ <;> omega
    rw [h, show (7 : Int32) = nI 7 from rfl, nI_eq (by decide) (by omega)] at c1
    subst c1
    rcases wx with ⟨-, -, w3⟩ | ⟨w1, -⟩
    · have w4 := w3.1
      rw [show wl (7 - 1) = 3 from rfl] at w4
      omega
    · omega
  · rw [h] at c1
    exact absurd c1 (by decide)
  · rw [h, show (7 : Int32) = nI 7 from rfl, nI_eq (by decide) (by omega)] at c1
    omega
/-- every sum -/
theorem rs_all (hc : CX tp z n tk vl A1 a6) : ∀ (m e x : Nat), x ≤ 8 → x + m = 9 → m ≤ e → RDS tp z n tk vl J J1 B B1 A1 a6 2 m (sX3_readSum_F (rX3 m).1 (rX3 m).2 (nI x)) (sX8_readSum_F (sX8_readSum e) (nI x)) := by
  intro m
  induction m with
  | zero => intro e x h1 h2; omega
  | succ m ih =>
    intro e x h1 h2 h3
    obtain ⟨e, rfl⟩ : ∃ g, e = g + 1 := ⟨e - 1, by omega⟩
    exact rd_s hc (rd_t hc (rd_p hc h1 (fun h => ih e (x + 1) (by omega) (by omega) (by omega))))
/-- a comparison -/
theorem rd_c (hc : CX tp z n tk vl A1 a6) {d e x : Nat} {rs rt} (he : e ≤ 9) (hP : RDS tp z n tk vl J J1 B B1 A1 a6 2 e (sX3_readSum_F rs rt (nI x)) (sX8_readSum 10 (nI x))) {k s l : Nat} (h6 : A 6 = a6) (hS : SS tp z n tk vl k s l I I1) (hs : 4 * s ≤ 8 * l + st8 tp z k) (hn0 : ¬ tk k = nI 140) (hn1 : ∀ x, 8 ≤ x → x ≤ 11 → ¬ tk k = nI x) : ∃ r I2 A2 I3, sX3_readComparison_F rs rt (nI x) I J A B = some (r, I2, A2) ∧ cmR (nI x) I1 J1 A1 B1 = some I3 ∧ FF I A I1 I2 A2 I3 ∧ ((r = 1 ∧ GX tp z n tk vl 3 d k s l A I2 A2 I3) ∨ (r = 0 ∧ DDp z I2 I3)) := by
  have hn : n ≤ 400 := Nat.le_trans hc.2.2.1.1 hc.1
  have hz := hc.1
  have dds : ∀ (I' : Nat → Int32) (p : Nat), I' 28 = nI p → p < 2 ^ 31 → sX8_readSum 10 (nI x) I' J1 A1 B1 = some I' := fun I' p q1 q2 => dd_s (rs := sX8_readSum 9) q1 q2
  obtain ⟨r, Ib, Ab, Ic, b1, b2, b3, b4⟩ := hP k s l I A I1 h6 hS hs
  unfold sX3_readComparison_F cmR
  rw [b1, b2]
  unfold sX8_sign
  dsimp only [gv, Option.bind_some]
  rw [show (100 : Int32) + 60 = nI (100 + 60) from rfl, show (100 : Int32) + 61 = nI (100 + 61) from rfl, show (100 : Int32) + 62 = nI (100 + 62) from rfl]
  rcases b4 with ⟨rfl, k1, s1', l1, g1, g2, g3, g4, g5, g6, g7⟩ | ⟨rfl, p, w, d1, d2, d3, d4, d5⟩
  · have g0 := g1
    obtain ⟨t1, t2, t3, t4, t5, t6, t7, t8⟩ := g1
    have g4 : 4 * s1' + 5 + (8 * l + st8 tp z k) ≤ 4 * s + (8 * l1 + st8 tp z k1) := g4
    have kd := (kd_t hc.2.2.1 t1 (fun i hi => (hc.2.1 i hi).1) t2)
    have hp1 := (st_b (tp := tp) (z := z) k1).1
    rw [if_neg (show ¬ (1 : Int32) = 0 by decide)]
    have step : ∀ b, b = 60 ∨ b = 61 ∨ b = 62 → tk k1 = nI (100 + b) → ∃ r I2 A2 I3, ((sX3_advance Ib J Ab B).bind fun I' => (sX3_readSum_F rs rt (nI x) I' J Ab B).bind fun a => (sX3_write (Ib 84) 0 a.2.1 J a.2.2 B).bind fun b => ck (isB a.1) <| some (a.1, b.1, b.2)) = some (r, I2, A2) ∧ ((sX8_readSum 10 (nI x) (upd Ic 26 (nI (k1 + 1))) J1 A1 B1).bind fun I => some I) = some I3 ∧ FF I A I1 I2 A2 I3 ∧ ((r = 1 ∧ GX tp z n tk vl 3 d k s l A I2 A2 I3) ∨ (r = 0 ∧ DDp z I2 I3)) := by
      intro b hb hbk
      have hk : k1 < n := by
        by_cases e : k1 = n
        · rw [(kd.2.1 e).2, show (0 : Int32) = nI 0 from rfl, nI_eq (by decide) (by omega)] at hbk
          omega
        · omega
      have hst := st_s hc hk
      have e84 : Ib 84 = nI b := (kd_b kd.1 (by omega)).mpr hbk
      obtain ⟨Ia, a1, a2, a3⟩ := av_x (J := J) (B := B) (A := Ab) hc ((b3.2.1 6 (by decide)).trans h6) t2 hk
      obtain ⟨r, Id, Ad, Ie, c1, c2, c3, c4⟩ := hP (k1 + 1) s1' l1 Ia Ab (upd Ic 26 (nI (k1 + 1))) ((b3.2.1 6 (by decide)).trans h6) ⟨hk, a2, by rw [a3 86 (by decide) (by decide) (by decide) (by decide)]; exact t3, t4, by rw [a3 90 (by decide) (by decide) (by decide) (by decide)]; exact t5, upd_s _ _ _, (upd_n _ _ (by decide)).trans t7, (upd_n _ _ (by decide)).trans t8⟩ (by omega)
      have f0 : FF I A I1 Id Ad Ie := ff_t b3 (ff_t (A2 := Ab) (I2 := Ia) (I3 := upd Ic 26 (nI (k1 + 1))) ⟨fun x h1 h2 h3 h4 _ _ => a3 x h1 h2 h3 h4, fun _ _ => rfl, fun x h1 _ _ => upd_n _ _ h1⟩ c3)
      rw [a1]
      dsimp only [Option.bind_some]
      rw [c1, c2]
      dsimp only [Option.bind_some]
      rcases c4 with ⟨rfl, k', s', l', j1, j2, j3, j4, j5, j6, j7⟩ | ⟨rfl, p, w, d1, d2, d3, d4, d5⟩
      · obtain ⟨u1, u2, u3, u4, u5, u6, u7, u8⟩ := j1
        have j4 : 4 * s' + 5 + (8 * l1 + st8 tp z (k1 + 1)) ≤ 4 * s1' + (8 * l' + st8 tp z k') := j4
        have hp' := (st_b (tp := tp) (z := z) k').1
        obtain ⟨A3, w1, w2, w3, w4, w5⟩ := wr_1 (J := J) (A := Ad) (B := B) (x := Ib 84) (y := 0) u5 (show s' < 200 by omega)
        rw [w1]
        refine ⟨1, upd Id 90 (nI (2 * (s' + 1))), A3, Ie, rfl, rfl, ff_t f0 ⟨fun x _ _ _ _ _ h => upd_n _ _ h, w5, fun _ _ _ _ => rfl⟩, Or.inl ⟨rfl, k', s' + 1, l', ⟨u1, at_c u2 (fun x h1 h2 => upd_n _ _ (by omega)), (upd_n _ _ (by decide)).trans u3, u4, upd_s _ _ _, u6, u7, u8⟩, by omega, by omega, ?_, fun i hi => by rw [w4 i (by omega) (by omega), j5 i (by omega), g5 i hi], cl_3, fun w hw => ?_⟩⟩
        · show 4 * (s' + 1) + 5 + (8 * l + st8 tp z k) ≤ 4 * s + (8 * l' + st8 tp z k')
          omega
        · exact tr_cmp he he hn0 hn1 (g7 w (fun i h1 h2 => by rw [hw i h1 (by omega), w4 i (by omega) (by omega), j5 i h2])) hb hbk (j7 w (fun i h1 h2 => by rw [hw i (by omega) (by omega), w4 i (by omega) (by omega)])) (j6.2.1 rfl).1 (j6.2.1 rfl).2 (by rw [hw (2 * s') (by omega) (by omega), w2, e84])
      · obtain ⟨I3, A3, w', w1, w2, w3, w4, w5⟩ := wr_g (J := J) (A := Ad) (B := B) (x := Ib 84) (y := 0) d4 d5
        rw [w1]
        exact ⟨0, I3, A3, Ie, rfl, rfl, ff_t f0 ⟨fun x _ _ _ _ _ h => w2 x h, w5, fun _ _ _ _ => rfl⟩, Or.inr ⟨rfl, p, w', d1, (w2 80 (by decide)).trans d2, d3, w3, w4⟩⟩
    have m60 := kd_b kd.1 (b := 60) (by decide)
    have m61 := kd_b kd.1 (b := 61) (by decide)
    have m62 := kd_b kd.1 (b := 62) (by decide)
    by_cases c1 : tk k1 = nI (100 + 60)
    · obtain ⟨r, I2, A2, I3, q1, q2, q3, q4⟩ := step 60 (by omega) c1
      refine ⟨r, I2, A2, I3, ?_, ?_, q3, q4⟩
      · rw [if_pos (show Ib 84 = 60 from m60.mpr c1)]
        exact q1
      · rw [ta_1 t8 t6 (by omega) (by rw [hc.2.2.2.1]; exact c1)]
        dsimp only [Option.bind_some]
        rw [if_neg (by decide)]
        exact q2
    · by_cases c2 : tk k1 = nI (100 + 62)
      · obtain ⟨r, I2, A2, I3, q1, q2, q3, q4⟩ := step 62 (by omega) c2
        refine ⟨r, I2, A2, I3, ?_, ?_, q3, q4⟩
        · rw [if_neg (show ¬ Ib 84 = 60 from fun q => c1 (m60.mp q)), if_pos (show Ib 84 = 62 from m62.mpr c2)]
          exact q1
        · rw [ta_0 t8 t6 (by omega) (by rw [hc.2.2.2.1]; exact c1)]
          dsimp only [Option.bind_some]
          rw [if_pos rfl, ta_1 t8 t6 (by omega) (by rw [hc.2.2.2.1]; exact c2)]
          dsimp only [Option.bind_some]
          rw [if_neg (by decide)]
          exact q2
      · by_cases c3 : tk k1 = nI (100 + 61)
        · obtain ⟨r, I2, A2, I3, q1, q2, q3, q4⟩ := step 61 (by omega) c3
          refine ⟨r, I2, A2, I3, ?_, ?_, q3, q4⟩
          · rw [if_neg (show ¬ Ib 84 = 60 from fun q => c1 (m60.mp q)), if_neg (show ¬ Ib 84 = 62 from fun q => c2 (m62.mp q)), if_pos (show Ib 84 = 61 from m61.mpr c3)]
            exact q1
          · rw [ta_0 t8 t6 (by omega) (by rw [hc.2.2.2.1]; exact c1)]
            dsimp only [Option.bind_some]
            rw [if_pos rfl, ta_0 t8 t6 (by omega) (by rw [hc.2.2.2.1]; exact c2)]
            dsimp only [Option.bind_some]
            rw [if_pos rfl, mu_1 t8 t6 (by omega) (by rw [hc.2.2.2.1]; exact c3)]
            exact q2
        · refine ⟨0, Ib, Ab, upd Ic 28 (nI (st8 tp z k1)), ?_, ?_, ff_t b3 ⟨fun _ _ _ _ _ _ _ => rfl, fun _ _ => rfl, fun x _ _ h3 => upd_n _ _ h3⟩, Or.inr ⟨rfl, _, 2 * s1', hp1, t2.2.1, upd_s _ _ _, t5, by omega⟩⟩
          · rw [if_neg (show ¬ Ib 84 = 60 from fun q => c1 (m60.mp q)), if_neg (show ¬ Ib 84 = 62 from fun q => c2 (m62.mp q)), if_neg (show ¬ Ib 84 = 61 from fun q => c3 (m61.mp q))]
          · rw [ta_0 t8 t6 (by omega) (by rw [hc.2.2.2.1]; exact c1)]
            dsimp only [Option.bind_some]
            rw [if_pos rfl, ta_0 t8 t6 (by omega) (by rw [hc.2.2.2.1]; exact c2)]
            dsimp only [Option.bind_some]
            rw [if_pos rfl, mu_0 t8 t6 (by omega) (by rw [hc.2.2.2.1]; exact c3) (hc.2.2.2.2.2 k1 t1)]
            dsimp only [Option.bind_some]
            rw [dds _ (st8 tp z k1) (upd_s _ _ _) (by omega)]
            rfl
  · rw [if_pos (show (0 : Int32) = 0 from rfl), ta_d d3 (by omega)]
    dsimp only [Option.bind_some]
    rw [if_pos (show (0 : Int32) = 0 from rfl), ta_d d3 (by omega)]
    dsimp only [Option.bind_some]
    rw [if_pos (show (0 : Int32) = 0 from rfl), mu_d d3 (by omega)]
    dsimp only [Option.bind_some]
    rw [dds _ p d3 (by omega)]
    exact ⟨0, Ib, Ab, Ic, rfl, rfl, b3, Or.inr ⟨rfl, p, w, d1, d2, d3, d4, d5⟩⟩
end Y2
