def zhK (nb nc : Nat) (fb fc : Nat → Int32) (x3 x4 y : Int32) (I : Nat → Int32) (J : Nat → Int64) (A : Nat → Nat → Int32) (B : Nat → Nat → Int64) : Option (Int32 × (Nat → Int32) × (Nat → Int64) × (Nat → Nat → Int64)) :=
  if y = (0 : Int32) then some ((0 : Int32), I, J, B) else (sX0_works nb nc fb fc x3 x4 I J A B).bind fun (r_82, I, B) => if r_82 = (0 : Int32) then some ((0 : Int32), I, J, B) else gv (if x3 = x4 then (0 : Int64) else (B 97 (ix 0))) fun v_107 => gv (vp_updL J 95 v_107) fun J => some ((1 : Int32), I, J, B)
def zhM (nb nc : Nat) (fb fc : Nat → Int32) (x3 x4 x5 : Int32) (I : Nat → Int32) (J : Nat → Int64) (A : Nat → Nat → Int32) (B : Nat → Nat → Int64) : Option (Int32 × (Nat → Int32) × (Nat → Int64) × (Nat → Nat → Int64)) :=
  if x4 = x5 then zhK nb nc fb fc x3 x4 1 I J A B else (sX0_works nb nc fb fc x4 x5 I J A B).bind fun (r_45, I, B) => if r_45 = (0 : Int32) then zhK nb nc fb fc x3 x4 0 I J A B else if (lg_cmp (B 97 (ix 0)) (0 : Int64)) = (0 : Int32) then zhK nb nc fb fc x3 x4 0 I J A B else zhK nb nc fb fc x3 x4 1 I J A B
section ZC
variable {I : Nat → Int32} {J : Nat → Int64} {A Ar : Nat → Nat → Int32} {B Br : Nat → Nat → Int64} {nb nc : Nat} {fb w tk vl : Nat → Int32} {N ba : Nat}
theorem zsd_n {y : Nat} {d : Nat → Option Int64} : zsd y none d = d := by
  funext x
  unfold zsd
  by_cases c : x = y
  · rw [if_pos c]; rfl
  · rw [if_neg c]
theorem cs_1 {f k k1 y : Nat} {p : Option Int64} (hy : 1 ≤ y) (hp : (y = 3 ∧ k1 = k + 1 ∧ p = some 0) ∨ (y ≤ 2 ∧ RO2 tk vl N ba J A B 9 (k + 1) k1 p ∧ ¬ tk k1 = nI 143 ∧ ¬ tk k1 = nI 145)) (hk : k1 ≤ N) (hx : RXT tk vl N ba A I) (h29 : I 29 = nI (ba + (k + 1))) (h31 : I 31 = 0) : ∃ v I1, zaA f (nI y) I J A B = zaB f (nI y) v I1 J A B ∧ I1 29 = nI (ba + k1) ∧ (∀ q, ¬ q = 29 → ¬ q = 31 → I1 q = I q) ∧ ((I1 31 = 0 ∧ p = some v) ∨ (I1 31 = 1 ∧ p = none)) := by
  unfold zaA
  rcases hp with ⟨rfl, rfl, rfl⟩ | ⟨h2, hr, g1, g2⟩
  · rw [if_pos (show nI 3 = 3 from rfl)]
    exact ⟨0, I, rfl, h29, fun _ _ _ => rfl, Or.inl ⟨h31, rfl⟩⟩
  · rw [if_neg (show ¬ nI y = 3 by rw [show (3 : Int32) = nI 3 from rfl, nI_eq (by omega) (by decide)]; omega)]
    obtain ⟨v, I1, E, o1, o2, o3, o4, o5⟩ := su_e (e := 9) (lv := 1) hr hk (Nat.le_refl _) hx h29 (Or.inl h31) (Or.inr rfl) g1 g2
    rw [show sX8_sumOf 10 1 I J A B = some (v, I1) from E]
    exact ⟨v, I1, rfl, o1, o2, o5 rfl h31⟩
theorem zct_1 {f k1 k' : Nat} {r : Int32} {v : Int64} {q : Option Int64} (hq : (tk k1 = 4 ∧ RO6 tk vl N ba J A B 9 (k1 + 1) k' q ∧ ¬ tk k' = 5) ∨ (¬ tk k1 = 4 ∧ k' = k1 ∧ q = some 1)) (hk : k1 ≤ N) (hk' : k' ≤ N) (hx : RXT tk vl N ba A I) (h29 : I 29 = nI (ba + k1)) : ∃ z I2, zaB f r v I J A B = zaC f r v (I 31) z I2 J A B ∧ I2 29 = nI (ba + k') ∧ (∀ q, ¬ q = 29 → ¬ q = 31 → I2 q = I q) ∧ ((¬ z = 0 ∧ I2 31 = 0 ∧ ∃ t, q = some t ∧ ¬ lg_cmp t 0 = 0) ∨ ((z = 0 ∨ ¬ I2 31 = 0) ∧ ∀ t, q = some t → lg_cmp t 0 = 0)) := by
  unfold zaB
  dsimp only [gv]
  have h29' : upd I 31 0 29 = nI (ba + k1) := h29
  have hx' : RXT tk vl N ba A (upd I 31 0) := rx_i hx (upd_n _ _ (by decide))
  rcases hq with ⟨h4, hr, g⟩ | ⟨h4, rfl, rfl⟩
  · rw [pa_1 hx' hk h29' h4]
    dsimp only [Option.bind_some]
    rw [if_neg (show ¬ (1 : Int32) = 0 by decide)]
    obtain ⟨t, I2, E, hv, o1, o2, o3, o4, o5⟩ := ts_e (e := 9) (lv := 1) (I := upd (upd I 31 0) 29 (nI (ba + (k1 + 1)))) hr hk' (Nat.le_refl _) (rx_i hx' (upd_n _ _ (by decide))) (upd_s _ _ _) (Or.inl rfl) (Or.inr rfl) g
    have o5' := o5 rfl rfl
    rw [show sX8_testOf 10 1 (upd (upd I 31 0) 29 (nI (ba + (k1 + 1)))) J A B = some (t, I2) from E]
    dsimp only [Option.bind_some]
    have o2' : ∀ q, ¬ q = 29 → ¬ q = 31 → I2 q = I q := fun q a b => (o2 q a b).trans ((upd_n _ _ a).trans (upd_n _ _ b))
    rcases hv with rfl | rfl
    · rw [if_pos rfl]
      refine ⟨0, I2, rfl, o1, o2', Or.inr ⟨Or.inl rfl, fun x hx => ?_⟩⟩
      rcases o5' with ⟨-, e⟩ | ⟨-, e⟩
      · rw [e] at hx; cases hx; decide
      · rw [e] at hx; cases hx
    · rw [if_neg (by decide)]
      refine ⟨1, I2, rfl, o1, o2', ?_⟩
      rcases o5' with ⟨e0, e⟩ | ⟨e0, e⟩
      · exact Or.inl ⟨by decide, e0, _, e, by decide⟩
      · exact Or.inr ⟨Or.inr (by rw [e0]; decide), fun x hx => by rw [e] at hx; cases hx⟩
  · rw [pa_0 hx' hk h29' h4]
    dsimp only [Option.bind_some]
    rw [if_pos rfl]
    exact ⟨1, upd I 31 0, rfl, h29', fun q _ b => upd_n _ _ b, Or.inl ⟨by decide, upd_s _ _ _, 1, rfl, by decide⟩⟩
/-- a clause, as the reference asks it -/
theorem cl_r {f k k1 k' y : Nat} {p q : Option Int64} {d : Nat → Option Int64} (hy : 1 ≤ y) (hy3 : y ≤ 3) (hky : tk k = nI y) (hp : (y = 3 ∧ k1 = k + 1 ∧ p = some 0) ∨ (y ≤ 2 ∧ RO2 tk vl N ba J A B 9 (k + 1) k1 p ∧ ¬ tk k1 = nI 143 ∧ ¬ tk k1 = nI 145)) (hq : (tk k1 = 4 ∧ RO6 tk vl N ba J A B 9 (k1 + 1) k' q ∧ ¬ tk k' = 5) ∨ (¬ tk k1 = 4 ∧ k' = k1 ∧ q = some 1)) (hk1 : k1 ≤ k') (hkk : k < k') (hk' : k' ≤ N) (hx : RXT tk vl N ba A I) (h29 : I 29 = nI (ba + k)) (hd : ZQF d I J) : ∃ I' J', lX8_asks_43 (f + 1) I J A B = lX8_asks_43 f I' J' A B ∧ I' 29 = nI (ba + (k' + 1)) ∧ (∀ q, ¬ q = 29 → ¬ q = 31 → ¬ q = 36 → ¬ q = 37 → ¬ q = 38 → I' q = I q) ∧ (∀ q, ¬ q = 34 → ¬ q = 35 → J' q = J q) ∧ ZQF (zsd y (q.bind fun t => if lg_cmp t 0 = 0 then none else p) d) I' J' := by
  have := hx.1
  have := hx.2.1
  rw [za_1, if_neg (by rw [hx.2.2.2.2, h29, nn_le (by omega) (by omega)]; omega), show upd I 31 0 29 = nI (ba + k) from h29, ca_1 (rx_i hx (upd_n _ _ (by decide))) (k := k) (by omega), hky]
  dsimp only [Option.bind_some]
  obtain ⟨v, I1, E1, a1, a2, a3⟩ := cs_1 (f := f) (I := upd (upd I 31 0) 29 (nI (ba + k) + 1)) hy hp (by omega) (rx_i hx rfl) (by rw [upd_s, nI_1, Nat.add_assoc]) rfl
  obtain ⟨z, I2, E2, b1, b2, b3⟩ := zct_1 (f := f) (r := nI y) (v := v) hq (by omega) hk' (rx_i hx (a2 30 (by decide) (by decide))) a1
  rw [E1, E2]
  have fr : ∀ q, ¬ q = 29 → ¬ q = 31 → I2 q = I q := fun q g1 g2 => (b2 q g1 g2).trans ((a2 q g1 g2).trans ((upd_n _ _ g1).trans (upd_n _ _ g2)))
  have e29 : upd I2 29 (I2 29 + 1) 29 = nI (ba + (k' + 1)) := by rw [upd_s, b1, nI_1, Nat.add_assoc]
  have fr' : ∀ q, ¬ q = 29 → ¬ q = 31 → upd I2 29 (I2 29 + 1) q = I q := fun q g1 g2 => (upd_n _ _ g1).trans (fr q g1 g2)
  have hd' : ZQF d (upd I2 29 (I2 29 + 1)) J := by
    obtain ⟨q1, q2, q3, q4, q5⟩ := hd
    exact ⟨(fr' 36 (by decide) (by decide)).trans q1, (fr' 37 (by decide) (by decide)).trans q2, (fr' 38 (by decide) (by decide)).trans q3, q4, q5⟩
  have no : (q.bind fun t => if lg_cmp t 0 = 0 then none else p) = none → zaC f (nI y) v (I1 31) z I2 J A B = zaD f (nI y) v 0 I2 J A B → ∃ I' J', zaC f (nI y) v (I1 31) z I2 J A B = lX8_asks_43 f I' J' A B ∧ I' 29 = nI (ba + (k' + 1)) ∧ (∀ q, ¬ q = 29 → ¬ q = 31 → ¬ q = 36 → ¬ q = 37 → ¬ q = 38 → I' q = I q) ∧ (∀ q, ¬ q = 34 → ¬ q = 35 → J' q = J q) ∧ ZQF (zsd y (q.bind fun t => if lg_cmp t 0 = 0 then none else p) d) I' J' := by
    intro h1 h2
    rw [h2, h1, zsd_n]
    unfold zaD
    dsimp only [gv]
    rw [if_pos rfl]
    exact ⟨_, J, rfl, e29, fun q g1 g2 _ _ _ => fr' q g1 g2, fun _ _ _ => rfl, hd'⟩
  rcases b3 with ⟨c1, c2, t, c3, c4⟩ | ⟨c1, c2⟩
  · have hcm : (q.bind fun t => if lg_cmp t 0 = 0 then none else p) = p := by rw [c3]; dsimp only [Option.bind_some]; rw [if_neg c4]
    rcases a3 with ⟨g1, g2⟩ | ⟨g1, g2⟩
    · rw [hcm, g2]
      unfold zaC zaD
      dsimp only [gv]
      rw [if_neg c1, if_pos c2, if_pos g1, if_neg (show ¬ (1 : Int32) = 0 by decide)]
      obtain ⟨I', J', F1, F2, F3, F4, F5⟩ := za_h (f := f) (A := A) (B := B) (v := v) hy hy3 hd'
      exact ⟨I', J', F1, F2.trans e29, fun q g1 g2 g3 g4 g5 => (F3 q g3 g4 g5).trans (fr' q g1 g2), F4, F5⟩
    · refine no (hcm.trans g2) ?_
      unfold zaC
      rw [if_neg c1, if_pos c2, if_neg (by rw [g1]; decide)]
  · refine no ?_ ?_
    · cases q with
      | none => rfl
      | some t => dsimp only [Option.bind_some]; rw [if_pos (c2 t rfl)]
    · unfold zaC
      by_cases c : z = 0
      · rw [if_pos c]
      · rw [if_neg c, if_neg (c1.resolve_left c)]
/-- the class works a stretch of orders -/
theorem wk_r {nd s m : Nat} {p : Option Int64} (h : CO nb nc fb w J A nd s m p) (hnd : nd ≤ 64) (hsm : s < m) (hm : 2 * m ≤ nc) (hnc : nc ≤ 400) : ∃ r I' B', sX0_works nb nc fb w (nI (2 * s)) (nI (2 * m)) I J A B = some (r, I', B') ∧ (∀ q, ¬ q = 98 → I' q = I q) ∧ (∀ b, ¬ b = 97 → B' b = B b) ∧ ((r = 1 ∧ p = some (B' 97 0)) ∨ (r = 0 ∧ p = none)) := by
  have hF : FU = 1000000 := rfl
  unfold sX0_works
  dsimp only [gv]
  rw [if_neg (show ¬ Int32.ofNat nc < nI (2 * m) from (by rw [show Int32.ofNat nc = nI nc from rfl, nn_lt (by omega) (by omega)]; omega)), if_neg (show ¬ nI (2 * s) < 0 by rw [show (0 : Int32) = nI 0 from rfl, nn_lt (by omega) (by decide)]; omega)]
  obtain ⟨h1, h2⟩ := h FU (2 * m) 0 (upd I 98 0) B (Nat.le_refl _) hm (by omega) rfl (by omega)
  cases p with
  | none =>
    obtain ⟨I', B', E, g1, g2⟩ := h2 rfl
    rw [E]
    exact ⟨0, I', B', rfl, fun q hq => (g1 q hq).trans (upd_n _ _ hq), g2, Or.inr ⟨rfl, rfl⟩⟩
  | some x =>
    obtain ⟨f', I', B', e1, E, g1, g2, g3, g4, g5⟩ := h1 x rfl
    obtain ⟨f', rfl⟩ : ∃ g, f' = g + 1 := ⟨f' - 1, by omega⟩
    rw [E, lX0_works_20, if_pos (show nI (2 * m) ≤ nI (2 * m) + 1 by rw [nI_1, nn_le (by omega) (by omega)]; omega)]
    exact ⟨1, I', B', rfl, fun q hq => (g2 q hq).trans (upd_n _ _ hq), g5, Or.inl ⟨rfl, congrArg some g3.symm⟩⟩
theorem wk_0 {s : Nat} (hm : 2 * s ≤ nc) (hnc : nc ≤ 400) : sX0_works nb nc fb w (nI (2 * s)) (nI (2 * s)) I J A B = some (1, upd I 98 0, B) := by
  unfold sX0_works
  dsimp only [gv]
  rw [if_neg (show ¬ Int32.ofNat nc < nI (2 * s) from (by rw [show Int32.ofNat nc = nI nc from rfl, nn_lt (by omega) (by omega)]; omega)), if_neg (show ¬ nI (2 * s) < 0 by rw [show (0 : Int32) = nI 0 from rfl, nn_lt (by omega) (by decide)]; omega), show FU = 999999 + 1 from rfl, lX0_works_20, if_pos (show nI (2 * s) ≤ nI (2 * s) + 1 by rw [nI_1, nn_le (by omega) (by omega)]; omega)]
  rfl
theorem ih_0 {x2 : Int32} : sX0_isHolding nb nc fb w x2 I J A B = ck (inB (x2 + 1) nb) (ck (inB (x2 + 2) nb) (ck (inB (x2 + 3) nb) (zhM nb nc fb w (fb (ix (x2 + 1))) (fb (ix (x2 + 2))) (fb (ix (x2 + 3))) I J A B))) := rfl
theorem ih_k {s m : Nat} {p : Option Int64} (hp : (s = m ∧ p = some 0) ∨ (s < m ∧ CO nb nc fb w J A 21 s m p)) (hm : 2 * m ≤ nc) (hnc : nc ≤ 400) : ∃ r I' J' B', zhK nb nc fb w (nI (2 * s)) (nI (2 * m)) 1 I J A B = some (r, I', J', B') ∧ (∀ q, ¬ q = 98 → I' q = I q) ∧ (∀ b, ¬ b = 97 → B' b = B b) ∧ (∀ q, ¬ q = 95 → J' q = J q) ∧ ((r = 1 ∧ p = some (J' 95)) ∨ (r = 0 ∧ p = none ∧ J' = J)) := by
  unfold zhK
  rw [if_neg (show ¬ (1 : Int32) = 0 by decide)]
  rcases hp with ⟨rfl, rfl⟩ | ⟨hs, hc⟩
  · rw [wk_0 hm hnc]
    dsimp only [Option.bind_some, gv]
    rw [if_neg (show ¬ (1 : Int32) = 0 by decide), if_pos rfl]
    exact ⟨1, _, _, B, rfl, fun q hq => upd_n _ _ hq, fun _ _ => rfl, fun q hq => by simp [vp_updL, hq], Or.inl ⟨rfl, by simp [vp_updL]⟩⟩
  · obtain ⟨r, I', B', E, g1, g2, g3⟩ := wk_r (I := I) (B := B) hc (by omega) hs hm hnc
    rw [E]
    dsimp only [Option.bind_some, gv]
    rcases g3 with ⟨rfl, e⟩ | ⟨rfl, e⟩
    · rw [if_neg (show ¬ (1 : Int32) = 0 by decide), if_neg (show ¬ nI (2 * s) = nI (2 * m) by rw [nI_eq (by omega) (by omega)]; omega)]
      exact ⟨1, I', _, B', rfl, g1, g2, fun q hq => by simp [vp_updL, hq], Or.inl ⟨rfl, by rw [e]; simp [vp_updL]; rfl⟩⟩
    · rw [if_pos rfl]
      exact ⟨0, I', J, B', rfl, g1, g2, fun _ _ => rfl, Or.inr ⟨rfl, e, rfl⟩⟩
/-- a clause, as the class asks it -/
theorem ih_1 {i s m s' : Nat} {p q : Option Int64} (hp : (s = m ∧ p = some 0) ∨ (s < m ∧ CO nb nc fb w J A 21 s m p)) (hq : (m < s' ∧ CO nb nc fb w J A 22 m s' q) ∨ (s' = m ∧ q = some 1)) (hm : 2 * m ≤ nc) (hs : 2 * s' ≤ nc) (hnc : nc ≤ 400) (hi : 4 * i + 4 ≤ nb) (hnb : nb ≤ 48) (b1 : fb (4 * i + 1) = nI (2 * s)) (b2 : fb (4 * i + 2) = nI (2 * m)) (b3 : fb (4 * i + 3) = nI (2 * s')) : ∃ r I' J' B', sX0_isHolding nb nc fb w (nI (4 * i)) I J A B = some (r, I', J', B') ∧ (∀ q, ¬ q = 98 → I' q = I q) ∧ (∀ b, ¬ b = 97 → B' b = B b) ∧ (∀ q, ¬ q = 95 → J' q = J q) ∧ ((r = 1 ∧ (q.bind fun t => if lg_cmp t 0 = 0 then none else p) = some (J' 95)) ∨ (r = 0 ∧ (q.bind fun t => if lg_cmp t 0 = 0 then none else p) = none ∧ J' = J)) := by
  rw [ih_0, nI_1, show nI (4 * i) + 2 = nI (4 * i + 2) by rw [show (2 : Int32) = nI 2 from rfl, nI_add], show nI (4 * i) + 3 = nI (4 * i + 3) by rw [show (3 : Int32) = nI 3 from rfl, nI_add], ck, if_pos (inB_n (by omega) (by omega)), ck, if_pos (inB_n (by omega) (by omega)), ck, if_pos (inB_n (by omega) (by omega)), ix_n (by omega), ix_n (by omega), ix_n (by omega), b1, b2, b3]
  unfold zhM
  rcases hq with ⟨h, hc⟩ | ⟨rfl, rfl⟩
  · rw [if_neg (show ¬ nI (2 * m) = nI (2 * s') by rw [nI_eq (by omega) (by omega)]; omega)]
    obtain ⟨r, I', B', E, g1, g2, g3⟩ := wk_r (I := I) (B := B) hc (by omega) h hs hnc
    rw [E]
    dsimp only [Option.bind_some]
    rcases g3 with ⟨rfl, e⟩ | ⟨rfl, e⟩
    · rw [if_neg (show ¬ (1 : Int32) = 0 by decide), e]
      dsimp only [Option.bind_some]
      by_cases c : lg_cmp (B' 97 (ix 0)) 0 = 0
      · rw [if_pos c, if_pos (show lg_cmp (B' 97 0) 0 = 0 from c)]
        unfold zhK
        rw [if_pos rfl]
        exact ⟨0, I', J, B', rfl, g1, g2, fun _ _ => rfl, Or.inr ⟨rfl, rfl, rfl⟩⟩
      · rw [if_neg c, if_neg (show ¬ lg_cmp (B' 97 0) 0 = 0 from c)]
        obtain ⟨r, I2, J2, B2, E2, k1, k2, k3, k4⟩ := ih_k (I := I') (B := B') hp hm hnc
        exact ⟨r, I2, J2, B2, E2, fun q hq => (k1 q hq).trans (g1 q hq), fun b hb => (k2 b hb).trans (g2 b hb), k3, k4⟩
    · rw [if_pos rfl, e]
      unfold zhK
      rw [if_pos rfl]
      exact ⟨0, I', J, B', rfl, g1, g2, fun _ _ => rfl, Or.inr ⟨rfl, rfl, rfl⟩⟩
  · rw [if_pos rfl]
    exact ih_k hp hm hnc
end ZC
