/-- c clauses: the rows b and the orders w, tokens up to k, orders up to s -/
def EC (tk vl w b : Nat → Int32) (c k s : Nat) : Prop := ∃ ks ms ss : Nat → Nat, ks 0 = 0 ∧ ss 0 = 0 ∧ ks c = k ∧ ss c = s ∧ ∀ i, i < c → ∃ k', CLT tk vl w (b (4 * i)) (ks i) (ss i) (ms i) k' (ss (i + 1)) ∧ ks i < k' ∧ ks (i + 1) = k' + 1 ∧ ss i ≤ ms i ∧ ms i ≤ ss (i + 1) ∧ b (4 * i + 1) = nI (2 * ss i) ∧ b (4 * i + 2) = nI (2 * ms i) ∧ b (4 * i + 3) = nI (2 * ss (i + 1))
theorem ec_0 {tk vl w b : Nat → Int32} : EC tk vl w b 0 0 0 := ⟨fun _ => 0, fun _ => 0, fun _ => 0, rfl, rfl, rfl, rfl, fun i hi => by omega⟩
theorem ec_s {tk vl w b : Nat → Int32} {c k s m k' s' : Nat} (h : EC tk vl w b c k s) (hC : CLT tk vl w (b (4 * c)) k s m k' s') (hk : k < k') (h1 : s ≤ m) (h2 : m ≤ s') (b1 : b (4 * c + 1) = nI (2 * s)) (b2 : b (4 * c + 2) = nI (2 * m)) (b3 : b (4 * c + 3) = nI (2 * s')) : EC tk vl w b (c + 1) (k' + 1) s' := by
  obtain ⟨ks, ms, ss, e1, e2, e3, e4, e5⟩ := h
  refine ⟨fun i => if i = c + 1 then k' + 1 else ks i, fun i => if i = c then m else ms i, fun i => if i = c + 1 then s' else ss i, ?_, ?_, if_pos rfl, if_pos rfl, fun i hi => ?_⟩
  · exact (if_neg (show ¬ 0 = c + 1 by omega)).trans e1
  · exact (if_neg (show ¬ 0 = c + 1 by omega)).trans e2
  · by_cases q : i = c
    · subst q
      dsimp only
      rw [if_neg (by omega), if_neg (by omega), if_pos rfl, if_pos rfl, if_pos rfl, e3, e4]
      exact ⟨k', hC, hk, rfl, h1, h2, b1, b2, b3⟩
    · dsimp only
      rw [if_neg (show ¬ i = c + 1 by omega), if_neg (show ¬ i = c + 1 by omega), if_neg q, if_neg (show ¬ i + 1 = c + 1 by omega), if_neg (show ¬ i + 1 = c + 1 by omega)]
      exact e5 i (by omega)
/-- the good end of a reading -/
def GE (tp : Nat → Nat) (z n : Nat) (tk vl : Nat → Int32) (I2 : Nat → Int32) (A2 : Nat → Nat → Int32) (I3 : Nat → Int32) : Prop := ∃ c s l, c < 12 ∧ SS tp z n tk vl n s l I2 I3 ∧ s ≤ 200 ∧ I2 88 = nI (c + 1) ∧ ∀ w b : Nat → Int32, (∀ i, i < 2 * s → w i = A2 89 i) → (∀ i, i < 4 * (c + 1) → b i = A2 87 i) → EC tk vl w b (c + 1) (n + 1) s
/-- the bad end: the class at the place of the fault, the reference there too, or not yet told -/
def BE (tp : Nat → Nat) (z n : Nat) (I2 I3 : Nat → Int32) : Prop := ∃ p, p ≤ z ∧ I2 80 = nI p ∧ (I3 28 = nI p ∨ ∃ k, k < n ∧ I3 28 = -1 ∧ I3 26 = nI k ∧ p = st8 tp z k)
section Y7
variable {I I1 : Nat → Int32} {J J1 : Nat → Int64} {A A1 : Nat → Nat → Int32} {B B1 : Nat → Nat → Int64} {tp : Nat → Nat} {z n : Nat} {tk vl a6 : Nat → Int32}
theorem dd_rl {p : Nat} {x : Int32} {f : Nat} (h : I1 28 = nI p) (hp : p < 2 ^ 31) : lX8_reads_34 (f + 1) x I1 J1 A1 B1 = some I1 := by
  rw [lX8_reads_34]
  unfold sX8_sign
  dsimp only [Option.bind_some]
  rw [ta_d h hp]
  rfl
theorem rl_x (hc : CX tp z n tk vl A1 a6) : ∀ (f f8 c k s l : Nat) (I : Nat → Int32) (A : Nat → Nat → Int32) (I1 : Nat → Int32), 12 < c + f → 14 < c + f8 → c < 12 → A 6 = a6 → I 88 = nI c → SS tp z n tk vl k s l I I1 → 4 * s ≤ 8 * l + st8 tp z k → (∀ w b : Nat → Int32, (∀ i, i < 2 * s → w i = A 89 i) → (∀ i, i < 4 * c → b i = A 87 i) → EC tk vl w b c k s) → ∃ o I2 A2 I3, lX3_read_41 f (nI c) I J A B = some o ∧ ((sX8_readClause I1 J1 A1 B1).bind fun I => lX8_reads_34 f8 (nI (c + 1)) I J1 A1 B1) = some I3 ∧ FG I A I1 I2 A2 I3 ∧ ((o = .inr (.inl (I2, A2)) ∧ GE tp z n tk vl I2 A2 I3) ∨ ((o = .inl (I2, A2) ∨ o = .inr (.inr (.inl (I2, A2))) ∨ o = .inr (.inr (.inr (I2, A2)))) ∧ BE tp z n I2 I3)) := by
  intro f
  induction f with
  | zero => intro f8 c k s l I A I1 h1 h2 h3; omega
  | succ f ih =>
    intro f8 c k s l I A I1 hf hf8 hcc h6 e88 hS hs hE
    have hn : n ≤ 400 := Nat.le_trans hc.2.2.1.1 hc.1
    have hz := hc.1
    obtain ⟨f8, rfl⟩ : ∃ g, f8 = g + 1 + 1 := ⟨f8 - 2, by omega⟩
    obtain ⟨r, Ib, Ab, Ic, b1, b2, b3, b4⟩ := ch_x (J := J) (J1 := J1) (B := B) (B1 := B1) hc h6 hcc e88 hS hs
    rw [lX3_read_41, if_neg (show ¬ 12 ≤ nI c by rw [show (12 : Int32) = nI 12 from rfl, nn_le (by decide) (by omega)]; omega), b1, b2]
    dsimp only [Option.bind_some]
    rcases b4 with ⟨rfl, h, m, g1, g2, k', s', l', g3, g4, g5, g6, g7, g8, g9, g10, g11, g12, g13⟩ | ⟨rfl, p, w, d1, d2, d3, d4, d5⟩
    · rw [if_neg (show ¬ (1 : Int32) = 0 by decide)]
      have hS' := g3
      obtain ⟨t1, t2, t3, t4, t5, t6, t7, t8⟩ := g3
      have kd := (kd_t hc.2.2.1 t1 (fun i hi => (hc.2.1 i hi).1) t2)
      have m59 := kd_b kd.1 (b := 59) (by decide)
      have hp' := (st_b (tp := tp) (z := z) k').1
      have hE' : ∀ w b : Nat → Int32, (∀ i, i < 2 * s' → w i = Ab 89 i) → (∀ i, i < 4 * (c + 1) → b i = Ab 87 i) → EC tk vl w b (c + 1) (k' + 1) s' := fun w b hw hb => ec_s (hE w b (fun i hi => by rw [hw i (by omega), g2 i hi]) (fun i hi => by rw [hb i (by omega), g12 i hi])) (by rw [hb _ (by omega), g8]; exact g13 w (fun i _ h2 => hw i h2)) g4 g1 g5 ((hb _ (by omega)).trans g9) ((hb _ (by omega)).trans g10) ((hb _ (by omega)).trans g11)
      rw [lX8_reads_34]
      unfold sX8_sign
      dsimp only [gv, Option.bind_some]
      rw [show (100 : Int32) + 59 = nI (100 + 59) from rfl]
      by_cases e : k' = n
      · subst e
        have e0 := kd.2.1 rfl
        rw [if_pos e0.1, ta_0 t8 t6 (by omega) (by rw [hc.2.2.2.1, e0.2]; decide)]
        exact ⟨_, Ib, Ab, Ic, rfl, rfl, b3, Or.inl ⟨rfl, c, s', l', hcc, hS', by omega, g7, hE'⟩⟩
      · have hk : k' < n := by omega
        rw [if_neg (kd.2.2 hk)]
        by_cases y : tk k' = nI (100 + 59)
        · have hst := st_s hc hk
          obtain ⟨Ia, a1, a2, a3⟩ := av_x (J := J) (B := B) (A := Ab) hc ((b3.2.1 6 (by decide) (by decide)).trans h6) t2 hk
          have fa : FG I A I1 Ia Ab (upd Ic 26 (nI (k' + 1))) := fg_t b3 ⟨fun x h1 h2 h3 h4 _ _ _ => a3 x h1 h2 h3 h4, fun _ _ _ => rfl, fun x h1 _ _ => upd_n _ _ h1⟩
          rw [if_pos (show Ib 84 = 59 from m59.mpr y), a1, ta_1 t8 t6 (by omega) (by rw [hc.2.2.2.1]; exact y), nI_1, nI_1]
          dsimp only [Option.bind_some]
          rw [if_neg (show ¬ (1 : Int32) = 0 by decide)]
          by_cases q : c + 1 = 12
          · obtain ⟨f, rfl⟩ : ∃ g, f = g + 1 := ⟨f - 1, by omega⟩
            have hp2 := (st_b (tp := tp) (z := z) (k' + 1)).1
            rw [lX3_read_41, q, if_pos (show 12 ≤ nI 12 by decide), if_pos (show nI 12 = 12 from rfl), fa_1 (k := k' + 1) ((upd_n _ _ (by decide)).trans t8) (upd_s _ _ _) (by omega) (hc.2.2.2.2.2 (k' + 1) (by omega))]
            dsimp only [Option.bind_some]
            rw [fi_0 (upd_s _ _ _) (by omega)]
            dsimp only [Option.bind_some]
            rw [if_pos rfl, dd_rl (p := st8 tp z (k' + 1)) (upd_s _ _ _) (by omega)]
            exact ⟨_, Ia, Ab, _, rfl, rfl, fg_t fa ⟨fun _ _ _ _ _ _ _ _ => rfl, fun _ _ _ => rfl, fun x _ _ h3 => upd_n _ _ h3⟩, Or.inr ⟨Or.inr (Or.inr rfl), _, hp2, a2.2.1, Or.inl (upd_s _ _ _)⟩⟩
          · rw [if_neg (show ¬ nI (c + 1) = 12 by rw [show (12 : Int32) = nI 12 from rfl, nI_eq (by omega) (by decide)]; exact q), fi_1 ((upd_n _ _ (by decide)).trans t8)]
            dsimp only [Option.bind_some]
            rw [if_neg (show ¬ (1 : Int32) = 0 by decide)]
            obtain ⟨o, I2, A2, I3, i1, i2, i3, i4⟩ := ih (f8 + 1) (c + 1) (k' + 1) s' l' Ia Ab (upd Ic 26 (nI (k' + 1))) (by omega) (by omega) (by omega) ((b3.2.1 6 (by decide) (by decide)).trans h6) ((a3 88 (by decide) (by decide) (by decide) (by decide)).trans g7) ⟨hk, a2, by rw [a3 86 (by decide) (by decide) (by decide) (by decide)]; exact t3, t4, by rw [a3 90 (by decide) (by decide) (by decide) (by decide)]; exact t5, upd_s _ _ _, (upd_n _ _ (by decide)).trans t7, (upd_n _ _ (by decide)).trans t8⟩ (by omega) hE'
            exact ⟨o, I2, A2, I3, i1, i2, fg_t fa i3, i4⟩
        · rw [if_neg (show ¬ Ib 84 = 59 from fun q => y (m59.mp q)), ta_0 t8 t6 (by omega) (by rw [hc.2.2.2.1]; exact y)]
          exact ⟨_, Ib, Ab, Ic, rfl, rfl, b3, Or.inr ⟨Or.inr (Or.inl rfl), _, hp', t2.2.1, Or.inr ⟨k', hk, t8, t6, rfl⟩⟩⟩
    · rw [if_pos (show (0 : Int32) = 0 from rfl), dd_rl d3 (by omega)]
      exact ⟨_, Ib, Ab, Ic, rfl, rfl, b3, Or.inr ⟨Or.inl rfl, p, d1, d2, Or.inl d3⟩⟩
end Y7
