section ZD
variable {I : Nat → Int32} {J : Nat → Int64} {A Ar : Nat → Nat → Int32} {B Br : Nat → Nat → Int64} {nb nc : Nat} {fb w tk vl : Nat → Int32} {N ba : Nat}
/-- the class tells of clauses below n -/
def TLn (nb nc : Nat) (fb w : Nat → Int32) (A : Nat → Nat → Int32) (d : Nat → Option Int64) (n : Nat) : Prop := ∀ (f y : Nat) (I : Nat → Int32) (J : Nat → Int64) (B : Nat → Nat → Int64), n < f → 1 ≤ y → y ≤ 3 → ∃ o I' J' B', lX0_tells_11 nb nc fb w f (nI (255 + y)) 4 (nI (4 * n) - 4) I J A B = some o ∧ (∀ q, ¬ q = 98 → I' q = I q) ∧ (∀ b, ¬ b = 97 → B' b = B b) ∧ (∀ q, ¬ q = 95 → J' q = J q) ∧ ((o = .inl (I', J', B') ∧ d y = some (J' 95)) ∨ (o = .inr (I', J', B') ∧ d y = none ∧ J' = J))
/-- the reference asks clauses below n -/
def AKn (tk vl : Nat → Int32) (N ba : Nat) (A : Nat → Nat → Int32) (B : Nat → Nat → Int64) (d : Nat → Option Int64) (n k : Nat) : Prop := ∀ (f : Nat) (I : Nat → Int32) (J : Nat → Int64), RXT tk vl N ba A I → I 29 = nI ba → I 36 = 0 → I 37 = 0 → I 38 = 0 → ∃ I' J', lX8_asks_43 (f + n) I J A B = lX8_asks_43 f I' J' A B ∧ I' 29 = nI (ba + k) ∧ (∀ q, ¬ q = 29 → ¬ q = 31 → ¬ q = 36 → ¬ q = 37 → ¬ q = 38 → I' q = I q) ∧ (∀ q, ¬ q = 34 → ¬ q = 35 → J' q = J q) ∧ ZQF d I' J'
theorem ec_m {c k s : Nat} {ks ms ss : Nat → Nat} {b : Nat → Int32} (h : ∀ i, i < c → ∃ k', CLT tk vl w (b (4 * i)) (ks i) (ss i) (ms i) k' (ss (i + 1)) ∧ ks i < k' ∧ ks (i + 1) = k' + 1 ∧ ss i ≤ ms i ∧ ms i ≤ ss (i + 1) ∧ b (4 * i + 1) = nI (2 * ss i) ∧ b (4 * i + 2) = nI (2 * ms i) ∧ b (4 * i + 3) = nI (2 * ss (i + 1))) : ∀ j n, n + j = c → ss n ≤ ss c ∧ ks n ≤ ks c := by
  intro j
  induction j with
  | zero => intro n hn; have : n = c := hn; rw [this]; exact ⟨Nat.le_refl _, Nat.le_refl _⟩
  | succ j ih =>
    intro n hn
    obtain ⟨k', -, h1, h2, h3, h4, -⟩ := h n (by omega)
    have := ih (n + 1) (by omega)
    omega
theorem tx_n (hnc : nc ≤ 400) (hnb : nb ≤ 48) (lk : LK A Ar Br) {c : Nat} {ks ms ss : Nat → Nat} (h0 : ks 0 = 0) (hb : 4 * c ≤ nb) (hs : 2 * ss c ≤ nc) (hk : ks c ≤ N + 1) (h : ∀ i, i < c → ∃ k', CLT tk vl w (fb (4 * i)) (ks i) (ss i) (ms i) k' (ss (i + 1)) ∧ ks i < k' ∧ ks (i + 1) = k' + 1 ∧ ss i ≤ ms i ∧ ms i ≤ ss (i + 1) ∧ fb (4 * i + 1) = nI (2 * ss i) ∧ fb (4 * i + 2) = nI (2 * ms i) ∧ fb (4 * i + 3) = nI (2 * ss (i + 1))) : ∀ n, n ≤ c → ∃ d, (∀ y, ISs (d y)) ∧ TLn nb nc fb w A d n ∧ AKn tk vl N ba Ar Br d n (ks n) := by
  intro n
  induction n with
  | zero =>
    intro _
    refine ⟨fun _ => none, fun y x h => (by cases h), ?_, ?_⟩
    · intro f y I J B hf _ _
      obtain ⟨f, rfl⟩ : ∃ g, f = g + 1 := ⟨f - 1, by omega⟩
      rw [lX0_tells_11, if_pos (show nI (4 * 0) - 4 < 0 by decide)]
      exact ⟨_, I, J, B, rfl, fun _ _ => rfl, fun _ _ => rfl, fun _ _ => rfl, Or.inr ⟨rfl, rfl, rfl⟩⟩
    · intro f I J hx h29 h36 h37 h38
      exact ⟨I, J, rfl, (by rw [h0]; exact h29), fun _ _ _ _ _ _ => rfl, fun _ _ _ => rfl, h36, h37, h38, fun v h => (by cases h), fun v h => (by cases h)⟩
  | succ n ih =>
    intro hn
    obtain ⟨d, i1, i2, i3⟩ := ih (by omega)
    obtain ⟨k', hC, g1, g2, g3, g4, b1, b2, b3⟩ := h n (by omega)
    obtain ⟨M1, M2⟩ := ec_m (k := 0) (s := 0) h (c - (n + 1)) (n + 1) (by omega)
    obtain ⟨y0, k1, y1, y3, hh, hky, hS, hT⟩ := hC
    have HP : ∃ p, ISs p ∧ (∀ J, (ss n = ms n ∧ p = some 0) ∨ (ss n < ms n ∧ CO nb nc fb w J A 21 (ss n) (ms n) p)) ∧ (∀ J, (y0 = 3 ∧ k1 = ks n + 1 ∧ p = some 0) ∨ (y0 ≤ 2 ∧ RO2 tk vl N ba J Ar Br 9 (ks n + 1) k1 p ∧ ¬ tk k1 = nI 143 ∧ ¬ tk k1 = nI 145)) := by
      rcases hS with ⟨a, b, e⟩ | ⟨a, t, m, cl⟩
      · exact ⟨some 0, is_1 (a := 0), fun _ => Or.inl ⟨e.symm, rfl⟩, fun _ => Or.inl ⟨a, b, rfl⟩⟩
      · obtain ⟨u1, u2, p, c1, c2, c3⟩ := tr_co (nb := nb) (fb := fb) (N := N) (ba := ba) t hnc lk
        exact ⟨p, c3 (by decide), fun J => Or.inr ⟨m, c1 J⟩, fun J => Or.inr ⟨a, c2 J, (cl.2.1 rfl).1, (cl.2.1 rfl).2⟩⟩
    have HQ : ∃ q, k1 ≤ k' ∧ (∀ J, (ms n < ss (n + 1) ∧ CO nb nc fb w J A 22 (ms n) (ss (n + 1)) q) ∨ (ss (n + 1) = ms n ∧ q = some 1)) ∧ (∀ J, (tk k1 = 4 ∧ RO6 tk vl N ba J Ar Br 9 (k1 + 1) k' q ∧ ¬ tk k' = 5) ∨ (¬ tk k1 = 4 ∧ k' = k1 ∧ q = some 1)) := by
      rcases hT with ⟨a, t, m, cl⟩ | ⟨a, b, e⟩
      · obtain ⟨u1, u2, q, c1, c2, c3⟩ := tr_co (nb := nb) (fb := fb) (N := N) (ba := ba) t hnc lk
        exact ⟨q, by omega, fun J => Or.inl ⟨m, c1 J⟩, fun J => Or.inl ⟨a, c2 J, cl.2.2.2 rfl⟩⟩
      · exact ⟨some 1, by omega, fun _ => Or.inr ⟨e, rfl⟩, fun _ => Or.inr ⟨a, b, rfl⟩⟩
    obtain ⟨p, P1, P2, P3⟩ := HP
    obtain ⟨q, Q1, Q2, Q3⟩ := HQ
    refine ⟨zsd y0 (q.bind fun t => if lg_cmp t 0 = 0 then none else p) d, ?_, ?_, ?_⟩
    · intro y x hx
      unfold zsd at hx
      by_cases cy : y = y0
      · rw [if_pos cy] at hx
        cases q with
        | none => exact i1 y x hx
        | some t =>
          dsimp only [Option.bind_some] at hx
          by_cases ct : lg_cmp t 0 = 0
          · rw [if_pos ct] at hx
            exact i1 y x hx
          · rw [if_neg ct] at hx
            cases p with
            | none => exact i1 y x hx
            | some v => exact P1 x hx
      · rw [if_neg cy] at hx
        exact i1 y x hx
    · intro f y I J B hf hy hy3
      obtain ⟨f, rfl⟩ : ∃ g, f = g + 1 := ⟨f - 1, by omega⟩
      have e4 : nI (4 * (n + 1)) - 4 = nI (4 * n) := by rw [show (4 : Int32) = nI 4 from rfl, pk_sub (by omega)]; exact congrArg nI (by omega)
      have e0 : nI (4 * n) + 0 = nI (4 * n) := by rw [show (0 : Int32) = nI 0 from rfl, nI_add]; rfl
      rw [e4, lX0_tells_11, if_neg (show ¬ nI (4 * n) < 0 by rw [show (0 : Int32) = nI 0 from rfl, nn_lt (by omega) (by decide)]; omega), e0, ck, if_pos (inB_n (by omega) (by omega)), ix_n (by omega), hh]
      by_cases cy : y = y0
      · subst cy
        rw [if_pos rfl]
        obtain ⟨r, I', J', B', E, f1, f2, f3, f4⟩ := ih_1 (I := I) (B := B) (i := n) (P2 J) (Q2 J) (by omega) (by omega) hnc (by omega) hnb b1 b2 b3
        rw [E]
        dsimp only [Option.bind_some, gv]
        rcases f4 with ⟨rfl, e⟩ | ⟨rfl, e, rfl⟩
        · rw [if_neg (show ¬ (1 : Int32) = 0 by decide), e]
          exact ⟨_, I', J', B', rfl, f1, f2, f3, Or.inl ⟨rfl, by unfold zsd; rw [if_pos rfl]; rfl⟩⟩
        · rw [if_pos rfl, e, zsd_n]
          obtain ⟨o, I2, J2, B2, F, m1, m2, m3, m4⟩ := i2 f y I' J' B' (by omega) hy hy3
          exact ⟨o, I2, J2, B2, F, fun q hq => (m1 q hq).trans (f1 q hq), fun q hq => (m2 q hq).trans (f2 q hq), m3, m4⟩
      · rw [if_neg (show ¬ nI (255 + y0) = nI (255 + y) by rw [nI_eq (by omega) (by omega)]; omega)]
        dsimp only [gv]
        obtain ⟨o, I2, J2, B2, F, m1, m2, m3, m4⟩ := i2 f y I J B (by omega) hy hy3
        exact ⟨o, I2, J2, B2, F, m1, m2, m3, by unfold zsd; rw [if_neg cy]; exact m4⟩
    · intro f I J hx h29 h36 h37 h38
      obtain ⟨I1, J1, E, a1, a2, a3, a4⟩ := i3 (f + 1) I J hx h29 h36 h37 h38
      have hx1 : RXT tk vl N ba Ar I1 := rx_i hx (a2 30 (by decide) (by decide) (by decide) (by decide) (by decide))
      obtain ⟨I2, J2, F0, c1, c2, c3, c4⟩ := cl_r (f := f) y1 y3 hky (P3 J1) (Q3 J1) Q1 g1 (by omega) hx1 a1 a4
      refine ⟨I2, J2, ?_, by rw [g2]; exact c1, fun q u1 u2 u3 u4 u5 => (c2 q u1 u2 u3 u4 u5).trans (a2 q u1 u2 u3 u4 u5), fun q u1 u2 => (c3 q u1 u2).trans (a3 q u1 u2), c4⟩
      rw [show f + (n + 1) = f + 1 + n by omega, E, F0]
/-- a text means the same to both: d 1 the need, d 2 the look, d 3 the edge -/
theorem tx_m {t : Txt} {n : Int32} {f g : Nat → Int32} (hX : XX t n f g) (lk : LK A Ar Br) (hba : ba ≤ 2800) (hA : ∀ i, i < 400 → Ar 1 (1647 + ba + i) = f i ∧ Ar 1 (4847 + ba + i) = g i) : ∃ d, (∀ y, ISs (d y)) ∧ (∀ (y : Nat) (I : Nat → Int32) (J : Nat → Int64) (B : Nat → Nat → Int64), 1 ≤ y → y ≤ 3 → ∃ r I' J' B', sX0_tells t.1 t.2.1 t.2.2.1 t.2.2.2 (nI (255 + y)) I J A B = some (r, I', J', B') ∧ (∀ q, ¬ q = 98 → I' q = I q) ∧ (∀ b, ¬ b = 97 → B' b = B b) ∧ (∀ q, ¬ q = 95 → J' q = J q) ∧ ((r = 1 ∧ d y = some (J' 95)) ∨ (r = 0 ∧ d y = none ∧ J' = J))) ∧ (∀ (I : Nat → Int32) (J : Nat → Int64), I 29 = nI ba → I 30 = nI ba + n → I 36 = 0 → I 37 = 0 → I 38 = 0 → ∃ I' J', lX8_asks_43 FU I J Ar Br = some (I', J') ∧ (∀ q, ¬ q = 29 → ¬ q = 31 → ¬ q = 36 → ¬ q = 37 → ¬ q = 38 → I' q = I q) ∧ (∀ q, ¬ q = 34 → ¬ q = 35 → J' q = J q) ∧ ZQF d I' J') := by
  obtain ⟨N, c, s, tk, vl, hN, hn, hw, h0, hc, e1, e2, hs, ks, ms, ss, k0, s0, k9, s9, hE⟩ := hX
  obtain ⟨d, d1, d2, d3⟩ := tx_n (nb := t.1) (nc := t.2.1) (Br := Br) (ba := ba) (N := N) (by omega) (by omega) lk k0 (by omega) (by omega) (by omega) hE (c + 1) (Nat.le_refl _)
  have hF : FU = 1000000 := rfl
  refine ⟨d, d1, fun y I J B hy hy3 => ?_, fun I J h29 h30 h36 h37 h38 => ?_⟩
  · unfold sX0_tells
    dsimp only [gv]
    obtain ⟨o, I2, J2, B2, F, m1, m2, m3, m4⟩ := d2 FU y I J B (by omega) hy hy3
    rw [show Int32.ofNat t.1 - 4 = nI (4 * (c + 1)) - 4 by rw [e1]; rfl, F]
    rcases m4 with ⟨rfl, e⟩ | ⟨rfl, e, rfl⟩
    · exact ⟨1, I2, J2, B2, rfl, m1, m2, m3, Or.inl ⟨rfl, e⟩⟩
    · exact ⟨0, I2, J2, B2, rfl, m1, m2, m3, Or.inr ⟨rfl, e, rfl⟩⟩
  · have hx : RXT tk vl N ba Ar I := ⟨hN, hba, fun i hi => ⟨(hA i (by omega)).1.trans (hw i hi).1, (hA i (by omega)).2.trans (hw i hi).2⟩, h0, by rw [h30, hn, nI_add]⟩
    obtain ⟨I2, J2, E, a1, a2, a3, a4⟩ := d3 (FU - (c + 1)) I J hx h29 h36 h37 h38
    rw [show FU - (c + 1) + (c + 1) = FU by omega] at E
    refine ⟨I2, J2, ?_, a2, a3, a4⟩
    rw [E, show FU - (c + 1) = (FU - (c + 2)) + 1 by omega, za_1, if_pos]
    rw [a1, a2 30 (by decide) (by decide) (by decide) (by decide) (by decide), hx.2.2.2.2, k9, nn_le (by omega) (by omega)]
    omega
end ZD
