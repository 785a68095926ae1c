/-- a clause from its if on, the class -/
def cB (h x2 : Int32) (I : Nat → Int32) (J : Nat → Int64) (A : Nat → Nat → Int32) (B : Nat → Nat → Int64) : Option (Int32 × (Nat → Int32) × (Nat → Nat → Int32)) :=
  if I 84 = 259 then ((sX3_advance I J A B).bind fun I' => (sX3_readTest 10 0 I' J A B).bind fun a => if a.1 = 0 then some (0, a.2.1, a.2.2) else (sX3_noteClause h x2 (I 90) a.2.1 J a.2.2 B).bind fun b => some (1, b.1, b.2)) else (sX3_noteClause h x2 (I 90) I J A B).bind fun b => some (1, b.1, b.2)
/-- and the reference -/
def cR (I : Nat → Int32) (J : Nat → Int64) (A : Nat → Nat → Int32) (B : Nat → Nat → Int64) : Option (Nat → Int32) :=
  (sX8_takes 4 I J A B).bind fun (r_31, I) => if r_31 = 0 then (some I) else (sX8_readTest 10 0 I J A B).bind fun I => some I
/-- a clause's good end -/
def GC (tp : Nat → Nat) (z n : Nat) (tk vl : Nat → Int32) (c : Nat) (h x2 : Int32) (k m : Nat) (A : Nat → Nat → Int32) (I2 : Nat → Int32) (A2 : Nat → Nat → Int32) (I3 : Nat → Int32) (Q : (Nat → Int32) → Nat → Nat → Prop) : Prop := ∃ k' s' l', SS tp z n tk vl k' s' l' I2 I3 ∧ k ≤ k' ∧ m ≤ s' ∧ 4 * s' ≤ 8 * l' + st8 tp z k' ∧ I2 88 = nI (c + 1) ∧ A2 87 (4 * c) = h ∧ A2 87 (4 * c + 1) = x2 ∧ A2 87 (4 * c + 2) = nI (2 * m) ∧ A2 87 (4 * c + 3) = nI (2 * s') ∧ (∀ i, i < 4 * c → A2 87 i = A 87 i) ∧ (∀ i, i < 2 * m → A2 89 i = A 89 i) ∧ ∀ w : Nat → Int32, (∀ i, 2 * m ≤ i → i < 2 * s' → w i = A2 89 i) → Q w k' s'
section Y6
variable {I I1 : Nat → Int32} {J J1 : Nat → Int64} {A A1 : Nat → Nat → Int32} {B B1 : Nat → Nat → Int64} {tp : Nat → Nat} {z n : Nat} {tk vl a6 : Nat → Int32}
theorem cR_d {p : Nat} (h : I1 28 = nI p) (hp : p < 2 ^ 31) : cR I1 J1 A1 B1 = some I1 := by
  unfold cR
  rw [ta_d h hp]
  rfl
theorem ch_2 (hc : CX tp z n tk vl A1 a6) (h6 : A 6 = a6) {c k m l : Nat} {h x2 : Int32} (hcc : c < 12) (e88 : I 88 = nI c) (hS : SS tp z n tk vl k m l I I1) (hs : 4 * m ≤ 8 * l + st8 tp z k) : ∃ r I2 A2 I3, cB h x2 I J A B = some (r, I2, A2) ∧ cR I1 J1 A1 B1 = some I3 ∧ FG I A I1 I2 A2 I3 ∧ ((r = 1 ∧ GC tp z n tk vl c h x2 k m A I2 A2 I3 (fun w k' s' => (tk k = 4 ∧ TRE tk vl w 6 9 (k + 1) m k' s' ∧ m < s' ∧ CLo 6 (tk k')) ∨ (¬ tk k = 4 ∧ k' = k ∧ s' = m))) ∨ (r = 0 ∧ DDp z I2 I3)) := by
  obtain ⟨s1, s2, s3, s4, s5, s6, s7, s8⟩ := hS
  have hn : n ≤ 400 := Nat.le_trans hc.2.2.1.1 hc.1
  have hz := hc.1
  have kd := (kd_t hc.2.2.1 s1 (fun i hi => (hc.2.1 i hi).1) s2)
  have m4 := kd_o kd.1 (b := 4) (by decide) (by decide)
  unfold cB cR
  by_cases y : tk k = 4
  · have hk : k < n := by
      by_cases e : k = n
      · rw [(kd.2.1 e).2] at y
        exact absurd y (by decide)
      · omega
    have hst := st_s hc hk
    obtain ⟨Ia, a1, a2, a3⟩ := av_x (J := J) (B := B) hc h6 s2 hk
    obtain ⟨r, Ib, Ab, Ic, b1, b2, b3, b4⟩ := rt_top (J := J) (J1 := J1) (B := B) (B1 := B1) hc (k + 1) m l Ia A (upd I1 26 (nI (k + 1))) h6 ⟨hk, a2, by rw [a3 86 (by decide) (by decide) (by decide) (by decide)]; exact s3, s4, by rw [a3 90 (by decide) (by decide) (by decide) (by decide)]; exact s5, upd_s _ _ _, (upd_n _ _ (by decide)).trans s7, (upd_n _ _ (by decide)).trans s8⟩ (by omega)
    have f0 : FF I A I1 Ib Ab Ic := ff_t (A2 := A) (I2 := Ia) (I3 := upd I1 26 (nI (k + 1))) ⟨fun x h1 h2 h3 h4 _ _ => a3 x h1 h2 h3 h4, fun _ _ => rfl, fun x h1 _ _ => upd_n _ _ h1⟩ b3
    rw [if_pos (show I 84 = 259 from m4.mpr y), a1, ta_1 s8 s6 (by omega) (by rw [hc.2.2.2.1]; exact y)]
    dsimp only [Option.bind_some]
    rw [b1, if_neg (show ¬ (1 : Int32) = 0 by decide), b2]
    dsimp only [Option.bind_some]
    rcases b4 with ⟨rfl, k', s', l', g1, g2, g3, g4, g5, g6, g7⟩ | ⟨rfl, q⟩
    · have g4 : 4 * s' + 4 + (8 * l + st8 tp z (k + 1)) ≤ 4 * m + (8 * l' + st8 tp z k') := g4
      obtain ⟨A3, w1, w2, w3, w4, w5, w6, w7⟩ := nc_1 (I := Ib) (J := J) (A := Ab) (B := B) (x := h) (y := x2) (v := I 90) ((f0.1 88 (by decide) (by decide) (by decide) (by decide) (by decide) (by decide)).trans e88) hcc
      rw [if_neg (show ¬ (1 : Int32) = 0 by decide), w1]
      obtain ⟨t1, t2, t3, t4, t5, t6, t7, t8⟩ := g1
      refine ⟨1, upd Ib 88 (nI (c + 1)), A3, Ic, rfl, rfl, fg_t (fg_f f0) ⟨fun x _ _ _ _ _ h _ => upd_n _ _ h, fun b h _ => w7 b h, fun _ _ _ _ => rfl⟩, Or.inl ⟨rfl, k', s', l', ⟨t1, at_c t2 (fun x h1 h2 => upd_n _ _ (by omega)), (upd_n _ _ (by decide)).trans t3, t4, (upd_n _ _ (by decide)).trans t5, t6, t7, t8⟩, by omega, by omega, by omega, upd_s _ _ _, w2, w3, w4.trans s5, w5.trans t5, fun i hi => by rw [w6 i hi, f0.2.1 87 (by decide)], fun i hi => by rw [w7 89 (by decide)]; exact g5 i hi, fun w hw => Or.inl ⟨y, g7 w (fun i h1 h2 => by rw [hw i h1 h2, w7 89 (by decide)]), g3, g6⟩⟩⟩
    · rw [if_pos (show (0 : Int32) = 0 from rfl)]
      exact ⟨0, Ib, Ab, Ic, rfl, rfl, fg_f f0, Or.inr ⟨rfl, q⟩⟩
  · obtain ⟨A3, w1, w2, w3, w4, w5, w6, w7⟩ := nc_1 (I := I) (J := J) (A := A) (B := B) (x := h) (y := x2) (v := I 90) e88 hcc
    rw [if_neg (show ¬ I 84 = 259 from fun q => y (m4.mp q)), ta_0 s8 s6 (by omega) (by rw [hc.2.2.2.1]; exact y), w1]
    refine ⟨1, upd I 88 (nI (c + 1)), A3, I1, rfl, rfl, ⟨fun x _ _ _ _ _ h _ => upd_n _ _ h, fun b h _ => w7 b h, fun _ _ _ _ => rfl⟩, Or.inl ⟨rfl, k, m, l, ⟨s1, at_c s2 (fun x h1 h2 => upd_n _ _ (by omega)), (upd_n _ _ (by decide)).trans s3, s4, (upd_n _ _ (by decide)).trans s5, s6, s7, s8⟩, by omega, by omega, hs, upd_s _ _ _, w2, w3, w4.trans s5, w5.trans s5, w6, fun i hi => by rw [w7 89 (by decide)], fun w hw => Or.inr ⟨y, rfl, rfl⟩⟩⟩
/-- a clause, both -/
theorem ch_x (hc : CX tp z n tk vl A1 a6) (h6 : A 6 = a6) {c k s l : Nat} (hcc : c < 12) (e88 : I 88 = nI c) (hS : SS tp z n tk vl k s l I I1) (hs : 4 * s ≤ 8 * l + st8 tp z k) : ∃ r I2 A2 I3, sX3_readClause I J A B = some (r, I2, A2) ∧ sX8_readClause I1 J1 A1 B1 = some I3 ∧ FG I A I1 I2 A2 I3 ∧ ((r = 1 ∧ ∃ h m, s ≤ m ∧ (∀ i, i < 2 * s → A2 89 i = A 89 i) ∧ ∃ k' s' l', SS tp z n tk vl k' s' l' I2 I3 ∧ k < k' ∧ m ≤ s' ∧ 4 * s' ≤ 8 * l' + st8 tp z k' ∧ I2 88 = nI (c + 1) ∧ A2 87 (4 * c) = h ∧ A2 87 (4 * c + 1) = nI (2 * s) ∧ A2 87 (4 * c + 2) = nI (2 * m) ∧ A2 87 (4 * c + 3) = nI (2 * s') ∧ (∀ i, i < 4 * c → A2 87 i = A 87 i) ∧ ∀ w : Nat → Int32, (∀ i, 2 * s ≤ i → i < 2 * s' → w i = A2 89 i) → CLT tk vl w h k s m k' s') ∨ (r = 0 ∧ DDp z I2 I3)) := by
  obtain ⟨s1, s2, s3, s4, s5, s6, s7, s8⟩ := hS
  have hn : n ≤ 400 := Nat.le_trans hc.2.2.1.1 hc.1
  have hz := hc.1
  have hp := (st_b (tp := tp) (z := z) k).1
  have kd := (kd_t hc.2.2.1 s1 (fun i hi => (hc.2.1 i hi).1) s2)
  have m1 := kd_o kd.1 (b := 1) (by decide) (by decide)
  have m2 := kd_o kd.1 (b := 2) (by decide) (by decide)
  have m3 := kd_o kd.1 (b := 3) (by decide) (by decide)
  have hkn : ¬ tk k = 0 → k < n := fun q => by
    by_cases e : k = n
    · exact absurd (kd.2.1 e).2 q
    · omega
  unfold sX3_readClause sX8_readClause
  dsimp only [gv]
  have sum : ∀ y, 1 ≤ y → y ≤ 2 → tk k = nI y → ∃ r I2 A2 I3, ((sX3_advance I J A B).bind fun I' => (sX3_readSum 10 0 I' J A B).bind fun a => if a.1 = 0 then some (0, a.2.1, a.2.2) else cB (I 84) (I 90) a.2.1 J a.2.2 B) = some (r, I2, A2) ∧ ((sX8_readSum 10 0 (upd I1 26 (nI (k + 1))) J1 A1 B1).bind fun I => cR I J1 A1 B1) = some I3 ∧ FG I A I1 I2 A2 I3 ∧ ((r = 1 ∧ ∃ h m, s ≤ m ∧ (∀ i, i < 2 * s → A2 89 i = A 89 i) ∧ ∃ k' s' l', SS tp z n tk vl k' s' l' I2 I3 ∧ k < k' ∧ m ≤ s' ∧ 4 * s' ≤ 8 * l' + st8 tp z k' ∧ I2 88 = nI (c + 1) ∧ A2 87 (4 * c) = h ∧ A2 87 (4 * c + 1) = nI (2 * s) ∧ A2 87 (4 * c + 2) = nI (2 * m) ∧ A2 87 (4 * c + 3) = nI (2 * s') ∧ (∀ i, i < 4 * c → A2 87 i = A 87 i) ∧ ∀ w : Nat → Int32, (∀ i, 2 * s ≤ i → i < 2 * s' → w i = A2 89 i) → CLT tk vl w h k s m k' s') ∨ (r = 0 ∧ DDp z I2 I3)) := by
    intro y y1 y2 hy
    have hk := hkn (by rw [hy, show (0 : Int32) = nI 0 from rfl, nI_eq (by omega) (by decide)]; omega)
    have hst := st_s hc hk
    have e84 : I 84 = nI (255 + y) := (kd_o kd.1 y1 (by omega)).mpr hy
    obtain ⟨Ia, a1, a2, a3⟩ := av_x (J := J) (B := B) hc h6 s2 hk
    obtain ⟨r, Ib, Ab, Ic, b1, b2, b3, b4⟩ := rs_top (J := J) (J1 := J1) (B := B) (B1 := B1) hc (k + 1) s l Ia A (upd I1 26 (nI (k + 1))) h6 ⟨hk, a2, by rw [a3 86 (by decide) (by decide) (by decide) (by decide)]; exact s3, s4, by rw [a3 90 (by decide) (by decide) (by decide) (by decide)]; exact s5, upd_s _ _ _, (upd_n _ _ (by decide)).trans s7, (upd_n _ _ (by decide)).trans s8⟩ (by omega)
    have f0 : FF I A I1 Ib Ab Ic := ff_t (A2 := A) (I2 := Ia) (I3 := upd I1 26 (nI (k + 1))) ⟨fun x h1 h2 h3 h4 _ _ => a3 x h1 h2 h3 h4, fun _ _ => rfl, fun x h1 _ _ => upd_n _ _ h1⟩ b3
    rw [a1]
    dsimp only [Option.bind_some]
    rw [b1, b2]
    dsimp only [Option.bind_some]
    rcases b4 with ⟨rfl, k', s', l', g1, g2, g3, g4, g5, g6, g7⟩ | ⟨rfl, p, w, d1, d2, d3, d4, d5⟩
    · have g4 : 4 * s' + 5 + (8 * l + st8 tp z (k + 1)) ≤ 4 * s + (8 * l' + st8 tp z k') := g4
      rw [if_neg (show ¬ (1 : Int32) = 0 by decide)]
      obtain ⟨r, I2, A2, I3, c1, c2, c3, c4⟩ := ch_2 (J := J) (J1 := J1) (B := B) (B1 := B1) (h := I 84) (x2 := I 90) hc ((b3.2.1 6 (by decide)).trans h6) hcc ((f0.1 88 (by decide) (by decide) (by decide) (by decide) (by decide) (by decide)).trans e88) g1 (by omega)
      refine ⟨r, I2, A2, I3, c1, c2, fg_t (fg_f f0) c3, ?_⟩
      rcases c4 with ⟨q, k2, s2', l2, j1, j2, j3, j4, j5, j6, j7, j8, j9, j10, j11, j12⟩ | q
      · exact Or.inl ⟨q, I 84, s', by omega, fun i hi => by rw [j11 i (by omega), g5 i hi], k2, s2', l2, j1, by omega, j3, j4, j5, j6, j7.trans s5, j8, j9, fun i hi => by rw [j10 i hi, f0.2.1 87 (by decide)], fun w hw => ⟨y, k', y1, by omega, e84, hy, Or.inr ⟨y2, g7 w (fun i h1 h2 => by rw [hw i h1 (by omega), j11 i h2]), g3, g6⟩, j12 w (fun i h1 h2 => hw i (by omega) h2)⟩⟩
      · exact Or.inr q
    · rw [if_pos (show (0 : Int32) = 0 from rfl), cR_d d3 (by omega)]
      exact ⟨0, Ib, Ab, Ic, rfl, rfl, fg_f f0, Or.inr ⟨rfl, p, w, d1, d2, d3, d4, d5⟩⟩
  by_cases c1 : tk k = 1
  · obtain ⟨r, I2, A2, I3, q1, q2, q3, q4⟩ := sum 1 (by decide) (by decide) c1
    have e84 : I 84 = 256 := m1.mpr c1
    refine ⟨r, I2, A2, I3, ?_, ?_, q3, q4⟩
    · rw [if_pos e84]
      simp only [if_neg (show ¬ I 84 = 258 by rw [e84]; decide)]
      exact q1
    · rw [ta_1 s8 s6 (by omega) (by rw [hc.2.2.2.1]; exact c1)]
      exact q2
  · by_cases c2 : tk k = 2
    · obtain ⟨r, I2, A2, I3, q1, q2, q3, q4⟩ := sum 2 (by decide) (by decide) c2
      have e84 : I 84 = 257 := m2.mpr c2
      refine ⟨r, I2, A2, I3, ?_, ?_, q3, q4⟩
      · rw [if_neg (show ¬ I 84 = 256 by rw [e84]; decide), if_pos e84]
        simp only [if_neg (show ¬ I 84 = 258 by rw [e84]; decide)]
        exact q1
      · rw [ta_0 s8 s6 (by omega) (by rw [hc.2.2.2.1]; exact c1)]
        dsimp only [Option.bind_some]
        rw [if_pos rfl, ta_1 s8 s6 (by omega) (by rw [hc.2.2.2.1]; exact c2)]
        exact q2
    · by_cases c3 : tk k = 3
      · have hk := hkn (by rw [c3]; decide)
        have hst := st_s hc hk
        have e84 : I 84 = 258 := m3.mpr c3
        obtain ⟨Ia, a1, a2, a3⟩ := av_x (J := J) (B := B) hc h6 s2 hk
        obtain ⟨r, I2, A2, I3, q1, q2, q3, q4⟩ := ch_2 (I := Ia) (I1 := upd I1 26 (nI (k + 1))) (J := J) (J1 := J1) (B := B) (B1 := B1) (h := I 84) (x2 := I 90) (k := k + 1) (m := s) (l := l) hc h6 hcc ((a3 88 (by decide) (by decide) (by decide) (by decide)).trans e88) ⟨hk, a2, by rw [a3 86 (by decide) (by decide) (by decide) (by decide)]; exact s3, s4, by rw [a3 90 (by decide) (by decide) (by decide) (by decide)]; exact s5, upd_s _ _ _, (upd_n _ _ (by decide)).trans s7, (upd_n _ _ (by decide)).trans s8⟩ (by omega)
        refine ⟨r, I2, A2, I3, ?_, ?_, fg_t (I2 := Ia) (A2 := A) (I3 := upd I1 26 (nI (k + 1))) ⟨fun x h1 h2 h3 h4 _ _ _ => a3 x h1 h2 h3 h4, fun _ _ _ => rfl, fun x h1 _ _ => upd_n _ _ h1⟩ q3, ?_⟩
        · rw [if_neg (show ¬ I 84 = 256 by rw [e84]; decide), if_neg (show ¬ I 84 = 257 by rw [e84]; decide), if_pos e84, a1]
          dsimp only [Option.bind_some]
          rw [if_pos e84]
          exact q1
        · rw [ta_0 s8 s6 (by omega) (by rw [hc.2.2.2.1]; exact c1)]
          dsimp only [Option.bind_some]
          rw [if_pos rfl, ta_0 s8 s6 (by omega) (by rw [hc.2.2.2.1]; exact c2)]
          dsimp only [Option.bind_some]
          rw [if_pos rfl, mu_1 s8 s6 (by omega) (by rw [hc.2.2.2.1]; exact c3)]
          exact q2
        · rcases q4 with ⟨q, k2, s2', l2, j1, j2, j3, j4, j5, j6, j7, j8, j9, j10, j11, j12⟩ | q
          · exact Or.inl ⟨q, I 84, s, by omega, j11, k2, s2', l2, j1, by omega, j3, j4, j5, j6, j7.trans s5, j8, j9, j10, fun w hw => ⟨3, k + 1, by decide, by decide, e84, c3, Or.inl ⟨rfl, rfl, rfl⟩, j12 w hw⟩⟩
          · exact Or.inr q
      · refine ⟨0, I, A, upd I1 28 (nI (st8 tp z k)), ?_, ?_, ⟨fun _ _ _ _ _ _ _ _ => rfl, fun _ _ _ => rfl, fun x _ _ h3 => upd_n _ _ h3⟩, Or.inr ⟨rfl, _, 2 * s, hp, s2.2.1, upd_s _ _ _, s5, by omega⟩⟩
        · rw [if_neg (show ¬ I 84 = 256 from fun q => c1 (m1.mp q)), if_neg (show ¬ I 84 = 257 from fun q => c2 (m2.mp q)), if_neg (show ¬ I 84 = 258 from fun q => c3 (m3.mp q))]
        · rw [ta_0 s8 s6 (by omega) (by rw [hc.2.2.2.1]; exact c1)]
          dsimp only [Option.bind_some]
          rw [if_pos rfl, ta_0 s8 s6 (by omega) (by rw [hc.2.2.2.1]; exact c2)]
          dsimp only [Option.bind_some]
          rw [if_pos rfl, mu_0 s8 s6 (by omega) (by rw [hc.2.2.2.1]; exact c3) (hc.2.2.2.2.2 k s1)]
          exact cR_d (p := st8 tp z k) (upd_s _ _ _) (by omega)
end Y6
