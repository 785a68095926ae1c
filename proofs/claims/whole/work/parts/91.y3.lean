/-- a test without its nots, the class -/
def poC (rs rt : Int32 → (Nat → Int32) → (Nat → Int64) → (Nat → Nat → Int32) → (Nat → Nat → Int64) → Option (Int32 × (Nat → Int32) × (Nat → Nat → Int32))) (x : Int32) (I : Nat → Int32) (J : Nat → Int64) (A : Nat → Nat → Int32) (B : Nat → Nat → Int64) : Option (Int32 × (Nat → Int32) × (Nat → Nat → Int32)) :=
  if I 84 = 40 then brC rt 41 x I J A B else if I 84 < 273 then sX3_readComparison_F rs rt x I J A B else if 277 ≤ I 84 then sX3_readComparison_F rs rt x I J A B else sX3_readLeaf I J A B
/-- a test without its nots, the reference -/
def poR (rs : Int32 → (Nat → Int32) → (Nat → Int64) → (Nat → Nat → Int32) → (Nat → Nat → Int64) → Option (Nat → Int32)) (x : Int32) (I : Nat → Int32) (J : Nat → Int64) (A : Nat → Nat → Int32) (B : Nat → Nat → Int64) : Option (Nat → Int32) :=
  (sX8_fine I J A B).bind fun r => if r = 0 then (some I) else ck (inB (I 26) 401) <| gv (A 22 (ix (I 26))) fun c => (sX8_sign 40).bind fun r => if c = r then brR rs 41 x I J A B else if c < 8 then cmR x I J A B else if 11 < c then cmR x I J A B else (sX8_leaf I J A B).bind fun I => some I
section Y3
variable {I I1 : Nat → Int32} {J J1 : Nat → Int64} {A A1 : Nat → Nat → Int32} {B B1 : Nat → Nat → Int64} {tp : Nat → Nat} {z n : Nat} {tk vl a6 : Nat → Int32}
theorem pl_C {rs rt} {x : Int32} : sX3_readPlain_F rs rt x I J A B = (lX3_readPlain_4 rs rt FU x 0 0 I J A B).bind fun a => (poC rs rt x a.2 J A B).bind fun b => if a.1 = 0 then (ck (isB b.1) <| some (b.1, b.2.1, b.2.2)) else (sX3_write 2 0 b.2.1 J b.2.2 B).bind fun c => ck (isB b.1) <| some (b.1, c.1, c.2) := by
  unfold sX3_readPlain_F
  congr 1
  funext a
  dsimp only [gv]
  unfold poC
  by_cases c1 : a.2 84 = 40
  · rw [if_pos c1, if_pos c1, br_41]
  · rw [if_neg c1, if_neg c1]
    by_cases c2 : a.2 84 < 273
    · rw [if_pos c2, if_pos c2]
    · rw [if_neg c2, if_neg c2]
      by_cases c3 : 277 ≤ a.2 84
      · rw [if_pos c3, if_pos c3]
      · rw [if_neg c3, if_neg c3]
theorem pl_R {rs} {x : Int32} : sX8_readPlain_F rs x I1 J1 A1 B1 = (lX8_readPlain_2 rs FU x 1 I1 J1 A1 B1).bind fun I => poR rs x I J1 A1 B1 := rfl
/-- a test without its nots -/
theorem rd_po (hc : CX tp z n tk vl A1 a6) {d e x : Nat} {rs rt r8} (hx : x ≤ 8) (he : e ≤ 9) (hP : RDS tp z n tk vl J J1 B B1 A1 a6 2 e (sX3_readSum_F rs rt (nI x)) (sX8_readSum 10 (nI x))) (hB : x < 8 → RDS tp z n tk vl J J1 B B1 A1 a6 6 d (rt (nI (x + 1))) (r8 (nI (x + 1)))) : RDS tp z n tk vl J J1 B B1 A1 a6 3 (d + 1) (poC rs rt (nI x)) (poR r8 (nI x)) := by
  intro k s l I A I1 h6 hS hs
  have hS0 := hS
  obtain ⟨s1, s2, s3, s4, s5, s6, s7, s8⟩ := hS
  have hn : n ≤ 400 := Nat.le_trans hc.2.2.1.1 hc.1
  have hp := (st_b (tp := tp) (z := z) k).1
  have hz := hc.1
  have kd := (kd_t hc.2.2.1 s1 (fun i hi => (hc.2.1 i hi).1) s2)
  unfold poC poR
  rw [fi_1 s8]
  unfold sX8_sign
  dsimp only [gv, Option.bind_some]
  rw [if_neg (show ¬ (1 : Int32) = 0 by decide), s6, ck, if_pos (inB_n (by omega) (by decide)), ix_n (by omega), hc.2.2.2.1, show (100 : Int32) + 40 = nI (100 + 40) from rfl]
  by_cases c : I 84 = 40
  · have c2 := (kd_b kd.1 (b := 40) (by decide)).mp c
    have hk : k < n := by
      by_cases e : k = n
      · rw [(kd.2.1 e).2] at c2
        exact absurd c2 (by decide)
      · omega
    rw [if_pos c, if_pos c2]
    obtain ⟨r, I2, A2, I3, b1, b2, b3, b4⟩ := br_g (J := J) (J1 := J1) (B := B) (B1 := B1) (cb := 41) hc h6 hx (by decide) hB hS0 hk hs
    refine ⟨r, I2, A2, I3, b1, b2, b3, ?_⟩
    rcases b4 with ⟨q, k1, s', l', g1, g2, g3, g4, g5, g6, g7⟩ | q
    · have g4 : 4 * s' + 4 + 2 + (8 * l + st8 tp z k) ≤ 4 * s + (8 * l' + st8 tp z (k1 + 1)) := g4
      exact Or.inl ⟨q, k1 + 1, s', l', g1, by omega, g3, show 4 * s' + 5 + (8 * l + st8 tp z k) ≤ 4 * s + (8 * l' + st8 tp z (k1 + 1)) by omega, g5, cl_3, fun w hw => tr_brt c2 (g7 w hw) g6⟩
    · exact Or.inr q
  · have c2 : ¬ tk k = nI (100 + 40) := fun q => c ((kd_b kd.1 (by decide)).mpr q)
    rw [if_neg c, if_neg c2]
    have cmp := rd_c (d := d + 1) (J := J) (J1 := J1) (B := B) (B1 := B1) hc he hP h6 hS0 hs c2
    rcases kd.1 with ⟨y, h1, h2, h3, h4⟩ | ⟨y, h1, h2, h3, h4⟩ | ⟨y, h1, h2, h3, h4⟩ | ⟨h1, h2, h3⟩ | ⟨y, h1, h2, h3⟩ | ⟨h1, h2⟩ | ⟨h1, h2⟩
    · rw [if_pos (show I 84 < 273 by rw [h4, show (273 : Int32) = nI 273 from rfl, nn_lt (by omega) (by decide)]; omega), if_pos (show tk k < 8 by rw [h3, show (8 : Int32) = nI 8 from rfl, nn_lt (by omega) (by decide)]; omega)]
      exact cmp (fun x q1 q2 q => by rw [h3, nI_eq (by omega) (by omega)] at q; omega)
    · have hk : k < n := by
        by_cases e : k = n
        · rw [(kd.2.1 e).2, show (0 : Int32) = nI 0 from rfl, nI_eq (by decide) (by omega)] at h3
          omega
        · omega
      have hst := st_s hc hk
      have hn2 : ¬ I 84 = -2 := fun q => absurd (q.symm.trans h4) (ng_n (by omega) (by decide))
      rw [if_neg (show ¬ I 84 < 273 by rw [h4, show (273 : Int32) = nI 273 from rfl, nn_lt (by omega) (by decide)]; omega), if_neg (show ¬ 277 ≤ I 84 by rw [h4, show (277 : Int32) = nI 277 from rfl, nn_le (by decide) (by omega)]; omega), if_neg (show ¬ tk k < 8 by rw [h3, show (8 : Int32) = nI 8 from rfl, nn_lt (by omega) (by decide)]; omega), if_neg (show ¬ 11 < tk k by rw [h3, show (11 : Int32) = nI 11 from rfl, nn_lt (by decide) (by omega)]; omega)]
      obtain ⟨r, I2, A2, I3, b1, b2, b3, b4⟩ := lf_b (J := J) (J1 := J1) (B := B) (B1 := B1) hc h6 hS0 hk hs
      rw [b1, b2]
      refine ⟨r, I2, A2, I3, rfl, rfl, b3, ?_⟩
      rcases b4 with ⟨q, g1, g2, g3, g4⟩ | q
      · rw [if_neg hn2] at g2 g3
        exact Or.inl ⟨q, k + 1, s + 1, l + 1, g1, by omega, by omega, show 4 * (s + 1) + 5 + (8 * l + st8 tp z k) ≤ 4 * s + (8 * (l + 1) + st8 tp z (k + 1)) by omega, g4, cl_3, fun w hw => tr_flg h1 h2 h3 ((hw _ (by omega) (by omega)).trans g2) (((hw _ (by omega) (by omega)).trans g3).trans h4)⟩
      · exact Or.inr q
    · rw [if_pos (show I 84 < 273 by rw [h4, show (273 : Int32) = nI 273 from rfl, nn_lt (by omega) (by decide)]; omega), if_neg (show ¬ tk k < 8 by rw [h3, show (8 : Int32) = nI 8 from rfl, nn_lt (by omega) (by decide)]; omega), if_pos (show 11 < tk k by rw [h3, show (11 : Int32) = nI 11 from rfl, nn_lt (by decide) (by omega)]; omega)]
      exact cmp (fun x q1 q2 q => by rw [h3, nI_eq (by omega) (by omega)] at q; omega)
    · rw [if_pos (show I 84 < 273 by rw [h3]; decide), if_neg (show ¬ tk k < 8 by rw [h1]; decide), if_pos (show 11 < tk k by rw [h1]; decide)]
      exact cmp (fun x q1 q2 q => by rw [h1, show (50 : Int32) = nI 50 from rfl, nI_eq (by omega) (by omega)] at q; omega)
    · rw [if_pos (show I 84 < 273 by rw [h3, show (273 : Int32) = nI 273 from rfl, nn_lt (by omega) (by decide)]; omega), if_neg (show ¬ tk k < 8 by rw [h2, show (8 : Int32) = nI 8 from rfl, nn_lt (by omega) (by decide)]; omega), if_pos (show 11 < tk k by rw [h2, show (11 : Int32) = nI 11 from rfl, nn_lt (by decide) (by omega)]; omega)]
      exact cmp (fun x q1 q2 q => by rw [h2, nI_eq (by omega) (by omega)] at q; omega)
    · rw [if_pos (show I 84 < 273 by rw [h1]; decide)]
      rcases h2 with h2 | ⟨h2, -⟩
      · rw [if_pos (show tk k < 8 by rw [h2]; decide)]
        exact cmp (fun x q1 q2 q => by rw [h2, show (0 : Int32) = nI 0 from rfl, nI_eq (by omega) (by omega)] at q; omega)
      · rw [if_neg (show ¬ tk k < 8 by rw [h2]; decide), if_pos (show 11 < tk k by rw [h2]; decide)]
        exact cmp (fun x q1 q2 q => by rw [h2, show (50 : Int32) = nI 50 from rfl, nI_eq (by omega) (by omega)] at q; omega)
    · rw [if_pos (show I 84 < 273 by rw [h1]; decide), if_pos (show tk k < 8 by rw [h2]; decide)]
      exact cmp (fun x q1 q2 q => by rw [h2, show (0 : Int32) = nI 0 from rfl, nI_eq (by omega) (by omega)] at q; omega)
/-- the nots -/
theorem nl_x (hc : CX tp z n tk vl A1 a6) (h6 : A 6 = a6) {x k0 s l : Nat} {rs rt r8} : ∀ (f f8 j : Nat) (I I1 : Nat → Int32), n < k0 + j + f → n + 1 < k0 + j + f8 → SS tp z n tk vl (k0 + j) s l I I1 → (∀ i, i < j → tk (k0 + i) = 7) → 3 * j + st8 tp z k0 ≤ st8 tp z (k0 + j) → ∃ j' I2 I3, lX3_readPlain_4 rs rt f (nI x) (if j % 2 = 0 then 0 else 1) (nI j) I J A B = some (if j' % 2 = 0 then 0 else 1, I2) ∧ lX8_readPlain_2 r8 f8 (nI x) 1 I1 J1 A1 B1 = some I3 ∧ FF I A I1 I2 A I3 ∧ SS tp z n tk vl (k0 + j') s l I2 I3 ∧ (∀ i, i < j' → tk (k0 + i) = 7) ∧ ¬ tk (k0 + j') = 7 ∧ 3 * j' + st8 tp z k0 ≤ st8 tp z (k0 + j') := by
  intro f
  induction f with
  | zero => intro f8 j I I1 h1 h2 hS; exact absurd hS.1 (by omega)
  | succ f ih =>
    intro f8 j I I1 hf hf8 hS hj hb
    have hS0 := hS
    obtain ⟨s1, s2, s3, s4, s5, s6, s7, s8⟩ := hS
    have hn : n ≤ 400 := Nat.le_trans hc.2.2.1.1 hc.1
    have kd := (kd_t hc.2.2.1 s1 (fun i hi => (hc.2.1 i hi).1) s2)
    have m7 := kd_o kd.1 (b := 7) (by decide) (by decide)
    obtain ⟨f8, rfl⟩ : ∃ g, f8 = g + 1 := ⟨f8 - 1, by omega⟩
    rw [lX3_readPlain_4, lX8_readPlain_2, if_neg (show ¬ (1 : Int32) = 0 by decide)]
    dsimp only [gv]
    by_cases c : tk (k0 + j) = 7
    · have hk : k0 + j < n := by
        by_cases e : k0 + j = n
        · rw [(kd.2.1 e).2] at c
          exact absurd c (by decide)
        · omega
      have h7 := sn_7 hc hk c
      obtain ⟨Ia, a1, a2, a3⟩ := av_x (J := J) (B := B) hc h6 s2 hk
      rw [if_neg (show ¬ 400 ≤ nI j by rw [show (400 : Int32) = nI 400 from rfl, nn_le (by decide) (by omega)]; omega), if_pos (show I 84 = 262 from m7.mpr c), a1, ta_1 s8 s6 (by omega) (by rw [hc.2.2.2.1]; exact c), nI_1]
      dsimp only [Option.bind_some]
      rw [show (if (if j % 2 = 0 then (0 : Int32) else 1) = 0 then (1 : Int32) else 0) = (if (j + 1) % 2 = 0 then 0 else 1) by
        by_cases e : j % 2 = 0
        · rw [if_pos e, if_pos rfl, if_neg (by omega)]
        · rw [if_neg e, if_neg (by decide), if_pos (by omega)]]
      obtain ⟨j', I2, I3, i1, i2, i3, i4⟩ := ih f8 (j + 1) Ia (upd I1 26 (nI (k0 + j + 1))) (by omega) (by omega) ⟨hk, a2, by rw [a3 86 (by decide) (by decide) (by decide) (by decide)]; exact s3, s4, by rw [a3 90 (by decide) (by decide) (by decide) (by decide)]; exact s5, upd_s _ _ _, (upd_n _ _ (by decide)).trans s7, (upd_n _ _ (by decide)).trans s8⟩ (fun i hi => by
        by_cases e : i = j
        · rw [e]; exact c
        · exact hj i (by omega)) (show 3 * (j + 1) + st8 tp z k0 ≤ st8 tp z (k0 + j + 1) by omega)
      exact ⟨j', I2, I3, i1, i2, ff_t (A2 := A) (I2 := Ia) (I3 := upd I1 26 (nI (k0 + j + 1))) ⟨fun x h1 h2 h3 h4 _ _ => a3 x h1 h2 h3 h4, fun _ _ => rfl, fun x h1 _ _ => upd_n _ _ h1⟩ i3, i4⟩
    · obtain ⟨f8, rfl⟩ : ∃ g, f8 = g + 1 := ⟨f8 - 1, by omega⟩
      rw [if_neg (show ¬ I 84 = 262 from fun q => c (m7.mp q)), ite_self, ta_0 s8 s6 (by omega) (by rw [hc.2.2.2.1]; exact c)]
      dsimp only [Option.bind_some]
      rw [lX8_readPlain_2, if_pos rfl]
      exact ⟨j, I, I1, rfl, rfl, ff_r, hS0, hj, c, hb⟩
/-- a plain test -/
theorem rd_pl (hc : CX tp z n tk vl A1 a6) {d x : Nat} {rs rt r8} (hP : RDS tp z n tk vl J J1 B B1 A1 a6 3 d (poC rs rt (nI x)) (poR r8 (nI x))) : RDS tp z n tk vl J J1 B B1 A1 a6 4 d (sX3_readPlain_F rs rt (nI x)) (sX8_readPlain_F r8 (nI x)) := by
  intro k s l I A I1 h6 hS hs
  have hn : n ≤ 400 := Nat.le_trans hc.2.2.1.1 hc.1
  have hz := hc.1
  obtain ⟨j, Ia, Ib, a1, a2, a3, a4, a5, a6', a7⟩ := nl_x (J := J) (J1 := J1) (B := B) (B1 := B1) (x := x) (k0 := k) (rs := rs) (rt := rt) (r8 := r8) hc h6 FU FU 0 I I1 (by unfold FU; omega) (by unfold FU; omega) hS (fun i hi => by omega) (by rw [Nat.add_zero]; omega)
  have a1 : lX3_readPlain_4 rs rt FU (nI x) 0 0 I J A B = some (if j % 2 = 0 then 0 else 1, Ia) := a1
  obtain ⟨r, I2, A2, I3, b1, b2, b3, b4⟩ := hP (k + j) s l Ia A Ib h6 a4 (by omega)
  rw [pl_C, pl_R, a1, a2]
  dsimp only [Option.bind_some]
  rw [b1, b2]
  dsimp only [Option.bind_some]
  have hr : isB r = true := by rcases b4 with ⟨rfl, -⟩ | ⟨rfl, -⟩ <;> rfl
  have f0 := ff_t a3 b3
  by_cases e : j % 2 = 0
  · rw [if_pos e, if_pos (show (0 : Int32) = 0 from rfl), ck, if_pos hr]
    refine ⟨r, I2, A2, I3, rfl, rfl, f0, ?_⟩
    rcases b4 with ⟨q, k1, s', l', g1, g2, g3, g4, g5, g6, g7⟩ | q
    · have g4 : 4 * s' + 5 + (8 * l + st8 tp z (k + j)) ≤ 4 * s + (8 * l' + st8 tp z k1) := g4
      exact Or.inl ⟨q, k1, s', l', g1, by omega, g3, show 4 * s' + 4 + (8 * l + st8 tp z k) ≤ 4 * s + (8 * l' + st8 tp z k1) by omega, g5, cl_4, fun w hw => tr_nt0 a5 a6' e (g7 w hw)⟩
    · exact Or.inr q
  · rw [if_neg e, if_neg (show ¬ (1 : Int32) = 0 by decide)]
    rcases b4 with ⟨q, k1, s', l', g1, g2, g3, g4, g5, g6, g7⟩ | ⟨q, p, w, d1, d2, d3, d4, d5⟩
    · have g4 : 4 * s' + 5 + (8 * l + st8 tp z (k + j)) ≤ 4 * s + (8 * l' + st8 tp z k1) := g4
      obtain ⟨u1, u2, u3, u4, u5, u6, u7, u8⟩ := g1
      have hp' := (st_b (tp := tp) (z := z) k1).1
      obtain ⟨A3, w1, w2, w3, w4, w5⟩ := wr_1 (J := J) (A := A2) (B := B) (x := 2) (y := 0) u5 (show s' < 200 by omega)
      rw [w1]
      dsimp only [Option.bind_some]
      rw [ck, if_pos hr]
      refine ⟨r, upd I2 90 (nI (2 * (s' + 1))), A3, I3, rfl, rfl, ff_t f0 ⟨fun x _ _ _ _ _ h => upd_n _ _ h, w5, fun _ _ _ _ => rfl⟩, Or.inl ⟨q, k1, s' + 1, l', ⟨u1, at_c u2 (fun x h1 h2 => upd_n _ _ (by omega)), (upd_n _ _ (by decide)).trans u3, u4, upd_s _ _ _, u6, u7, u8⟩, by omega, by omega, show 4 * (s' + 1) + 4 + (8 * l + st8 tp z k) ≤ 4 * s + (8 * l' + st8 tp z k1) by omega, fun i hi => by rw [w4 i (by omega) (by omega), g5 i hi], cl_4, fun w hw => ?_⟩⟩
      exact tr_nt1 a5 a6' (by omega) (g7 w (fun i h1 h2 => by rw [hw i h1 (by omega), w4 i (by omega) (by omega)])) ((hw _ (by omega) (by omega)).trans w2)
    · obtain ⟨I4, A3, w', w1, w2, w3, w4, w5⟩ := wr_g (J := J) (A := A2) (B := B) (x := 2) (y := 0) d4 d5
      rw [w1]
      dsimp only [Option.bind_some]
      rw [ck, if_pos hr]
      exact ⟨r, I4, A3, I3, rfl, rfl, ff_t f0 ⟨fun x _ _ _ _ _ h => w2 x h, w5, fun _ _ _ _ => rfl⟩, Or.inr ⟨q, p, w', d1, (w2 80 (by decide)).trans d2, d3, w3, w4⟩⟩
end Y3
