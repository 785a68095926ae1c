theorem q_pos {e : Nat → Nat → Int} {g : Nat → Bool} {j : Nat} {v : Int} (he : EB e) (hj : j < 48) (hok : okF e g (j / 8) = true) (h : qF e g j = some v) : 0 ≤ v := by
  obtain ⟨h1, h2, rfl⟩ := qF_g h
  have := dF_1 he hj h1 hok
  exact Int.tdiv_nonneg (by omega) (by omega)
theorem lk_x {e e' : Nat → Nat → Int} {g g' : Nat → Bool} {t : Nat} (h : ∀ k i, ¬ k = 1 → e k i = e' k i) (h1 : ∀ i, i / 8 = t → e 1 i = e' 1 i) (hg : ∀ i, i / 8 = t → g i = g' i) : lk e g t = lk e' g' t := by
  unfold lk
  rw [okF_x h hg, bT_x (q := qF e g) (q' := qF e' g') 8 (fun j k1 k2 => qF_x h (h1 j (by omega)) (fun i hi => hg i (by omega)))]
theorem low_1 {e : Nat → Nat → Int} {g : Nat → Bool} {t : Nat} (ht : t < 6) (h : ∀ i, i < 6 → ¬ i = t → okF e g i = true) : lowF e g 6 = if okF e g t = true then none else some t := by
  by_cases c : okF e g t = true
  · rw [if_pos c]
    exact lowF_a (fun i hi => by by_cases q : i = t; · rw [q]; exact c
                                 · exact h i hi q)
  · rw [if_neg c]
    cases hl : lowF e g 6 with
    | none => exact absurd (lowF_n hl t ht) c
    | some u =>
      obtain ⟨u1, u2, -⟩ := lowF_s hl
      by_cases q : u = t
      · rw [q]
      · exact absurd (h u u1 q) u2
theorem bG_0 {q : Nat → Option Int} : ∀ t, (∀ j, j < 8 * t → q j = none) → bG q t = none := by
  intro t
  induction t with
  | zero => intro _; rfl
  | succ t ih =>
    intro h
    show cb _ _ = none
    rw [ih (fun j hj => h j (by omega)), bT_0 8 (fun j k1 k2 => h j (by omega))]
    rfl
theorem cn_0 {g : Nat → Bool} {b : Nat} : ∀ n, cn g b n = 0 → ∀ j, b ≤ j → j < b + n → g j = true := by
  intro n
  induction n with
  | zero => intro _ j h1 h2; omega
  | succ n ih =>
    intro h j h1 h2
    have h : cn g b n + (if g (b + n) = true then 0 else 1) = 0 := h
    by_cases q : j = b + n
    · subst q
      by_cases c : g (b + n) = true
      · exact c
      · rw [if_neg c] at h; omega
    · exact ih (by omega) j h1 (by omega)
theorem cn_le {g : Nat → Bool} {b : Nat} : ∀ n, cn g b n ≤ n := by
  intro n
  induction n with
  | zero => exact Nat.le_refl _
  | succ n ih =>
    show cn g b n + _ ≤ n + 1
    split <;> omega
def fI (o : Option Nat) : Int32 := match o with | none => -1 | some t => nI t
theorem nI_m1 {k : Nat} (hk : k < 2 ^ 31) : ¬ nI k = -1 := fun h => by
  have := congrArg Int32.toInt h
  rw [nI_toInt hk, show (-1 : Int32).toInt = -1 from rfl] at this
  omega
section S5
variable {e : Nat → Nat → Int} {g : Nat → Bool} {t : Nat} {I : Nat → Int32} {J : Nat → Int64} {A : Nat → Nat → Int32} {B : Nat → Nat → Int64}
theorem wo_7 (he : EB e) (hok : ∀ t, t < 6 → okF e g t = true) (h6 : ∀ t, t < 6 → A 61 t = wI (lk e g t) ∧ B 62 t = lI (xI (lk e g t))) : ∀ n t, 6 < t + n → t ≤ 6 → lX1_worstOfAll_9 n (wI (bG (qF e g) t)) (lI (xI (bG (qF e g) t))) (nI t) I J A B = some (wI (bG (qF e g) 6)) := by
  intro n
  induction n with
  | zero => intro t h1 h2; omega
  | succ n ih =>
    intro t h1 h2
    rw [lX1_worstOfAll_9]
    by_cases hi : t = 6
    · subst hi
      rw [if_pos (by decide)]
    · rw [if_neg (by rw [show (6 : Int32) = nI 6 from rfl, nn_le (by decide) (by omega)]; omega)]
      obtain ⟨a1, a2⟩ := h6 t (by omega)
      have hlk : lk e g t = bT (qF e g) (8 * t) 8 := if_pos (hok t (by omega))
      dsimp only [gv]
      rw [ix_n (show t < 2 ^ 31 by omega), a1, a2, nI_1, hlk]
      simp only [ck, if_pos (inB_n (show t < 6 by omega) (by decide))]
      have hb : (xI (bG (qF e g) t)).natAbs ≤ 190636416000000000 := by
        cases hq : bG (qF e g) t with
        | none => decide
        | some p =>
          obtain ⟨p1, p2, -⟩ := bG_s hq
          exact qF_b he (by omega) p2
      have hx := xI_b (g := g) he (show t < 6 by omega) (show 8 ≤ 8 by omega)
      have hstep : bG (qF e g) (t + 1) = cb (bG (qF e g) t) (bT (qF e g) (8 * t) 8) := rfl
      by_cases hc : xI (bT (qF e g) (8 * t) 8) ≤ xI (bG (qF e g) t)
      · rw [if_pos (by rw [l_cle (by omega) (by omega)]; exact hc)]
        have e1 : bG (qF e g) (t + 1) = bG (qF e g) t := by
          rw [hstep]
          cases h8 : bT (qF e g) (8 * t) 8 with
          | none => exact cb_r _
          | some p =>
            obtain ⟨p1, p2, p3⟩ := bT_s h8
            have hp := q_pos he (show p.1 < 48 by omega) (hok _ (by omega)) p3
            rw [h8] at hc
            have hc : p.2 ≤ xI (bG (qF e g) t) := hc
            cases hq : bG (qF e g) t with
            | none => rw [hq] at hc; have : xI none = -1 := rfl; omega
            | some r =>
              rw [hq] at hc
              have hc : p.2 ≤ r.2 := hc
              show (if r.2 < p.2 then some p else some r) = _
              rw [if_neg (by omega)]
        have := ih (t + 1) (by omega) (by omega)
        rw [e1] at this
        exact this
      · rw [if_neg (by rw [l_cle (by omega) (by omega)]; exact hc)]
        have e1 : bG (qF e g) (t + 1) = bT (qF e g) (8 * t) 8 := by
          rw [hstep]
          cases hq : bG (qF e g) t with
          | none => rfl
          | some r =>
            rw [hq] at hc
            have hr : xI (some r) = r.2 := rfl
            obtain ⟨r1, r2, -⟩ := bG_s hq
            have hp := q_pos he (show r.1 < 48 by omega) (hok _ (by omega)) r2
            cases h8 : bT (qF e g) (8 * t) 8 with
            | none => rw [h8] at hc; have : xI none = -1 := rfl; omega
            | some p =>
              rw [h8] at hc
              have : xI (some p) = p.2 := rfl
              show (if r.2 < p.2 then some p else some r) = _
              rw [if_pos (by omega)]
        have := ih (t + 1) (by omega) (by omega)
        rw [e1] at this
        exact this
theorem wo_8 (he : EB e) (hok : ∀ t, t < 6 → okF e g t = true) (h6 : ∀ t, t < 6 → A 61 t = wI (lk e g t) ∧ B 62 t = lI (xI (lk e g t))) : sX1_worstOfAll I J A B = some (wI (bG (qF e g) 6)) := by
  have := wo_7 (I := I) (J := J) he hok h6 FU 0 (by unfold FU; omega) (by omega)
  have : lX1_worstOfAll_9 FU (-1) (-1) 0 I J A B = some (wI (bG (qF e g) 6)) := by
    rw [l_m1]; exact this
  unfold sX1_worstOfAll
  rw [this]
  rfl
/-- while joints go -/
def BU (e : Nat → Nat → Int) (g : Nat → Bool) (o : List Nat) (I : Nat → Int32) (J : Nat → Int64) (A : Nat → Nat → Int32) (B : Nat → Nat → Int64) : Prop :=
  BS e I J A ∧ (∀ t, t < 6 → ∀ i, i < 8 → bb (A 60 t) i = g (8 * t + i)) ∧ (∀ t, t < 6 → A 61 t = wI (lk e g t) ∧ B 62 t = lI (xI (lk e g t))) ∧ I 53 = nI o.length ∧ (∀ i, i < o.length → A 52 i = nI (o.getD i 0)) ∧ cn g 0 48 + o.length = 48 ∧ I 54 = fI (lowF e g 6)
/-- what is left of Bearing's cells -/
def BR (I I2 : Nat → Int32) (A A2 : Nat → Nat → Int32) (B B2 : Nat → Nat → Int64) : Prop := (∀ k, ¬ k = 53 → ¬ k = 54 → I2 k = I k) ∧ (∀ a, ¬ a = 52 → ¬ a = 60 → ¬ a = 61 → ¬ a = 64 → A2 a = A a) ∧ (∀ b, ¬ b = 62 → ¬ b = 65 → ¬ b = 66 → ¬ b = 67 → B2 b = B b)
theorem BR_r : BR I I A A B B := ⟨fun _ _ _ => rfl, fun _ _ _ _ _ => rfl, fun _ _ _ _ _ => rfl⟩
theorem BR_t {I1 I2 I3 : Nat → Int32} {A1 A2 A3 : Nat → Nat → Int32} {B1 B2 B3 : Nat → Nat → Int64} (h : BR I1 I2 A1 A2 B1 B2) (k : BR I2 I3 A2 A3 B2 B3) : BR I1 I3 A1 A3 B1 B3 :=
  ⟨fun i a b => (k.1 i a b).trans (h.1 i a b), fun i a b c d => (k.2.1 i a b c d).trans (h.2.1 i a b c d), fun i a b c d => (k.2.2 i a b c d).trans (h.2.2 i a b c d)⟩
theorem bu_7 : ∀ (n : Nat) (g : Nat → Bool) (o : List Nat) (I : Nat → Int32) (A : Nat → Nat → Int32) (B : Nat → Nat → Int64), cn g 0 48 < n → BU e g o I J A B → ∃ r I2 A2 B2, lX1_breakUp_42 n I J A B = some r ∧ (r = .inl (I2, A2, B2) ∨ r = .inr (I2, A2, B2)) ∧ BR I I2 A A2 B B2 ∧ I2 53 = nI (runG e n g o).1.length ∧ (∀ i, i < (runG e n g o).1.length → A2 52 i = nI ((runG e n g o).1.getD i 0)) ∧ (runG e n g o).1.length ≤ 48 ∧ I2 54 = fI (runG e n g o).2 := by
  intro n
  induction n with
  | zero => intro g o I A B h; omega
  | succ n ih =>
    intro g o I A B hn hu
    have hu0 := hu
    obtain ⟨hb, hm, h6, h53, h52, hcn, h54⟩ := hu0
    rw [lX1_breakUp_42, runG]
    cases hl : lowF e g 6 with
    | some t0 =>
      rw [hl] at h54
      have h54 : I 54 = nI t0 := h54
      obtain ⟨t1, -, -⟩ := lowF_s hl
      rw [if_neg (by rw [h54]; exact nI_m1 (by omega))]
      exact ⟨_, I, A, B, rfl, Or.inr rfl, BR_r, h53, h52, by show o.length ≤ 48; omega, h54⟩
    | none =>
      rw [hl] at h54
      have h54 : I 54 = -1 := h54
      have hok := lowF_n hl
      rw [if_pos h54, h53]
      by_cases h48 : o.length = 48
      · rw [if_pos (by rw [h48]; decide)]
        have hz : bG (qF e g) 6 = none := bG_0 6 (fun j hj => by unfold qF; rw [if_pos (cn_0 (b := 0) 48 (by omega) j (by omega) (by omega))])
        rw [hz]
        exact ⟨_, I, A, B, rfl, Or.inr rfl, BR_r, h53, h52, by show o.length ≤ 48; omega, h54⟩
      · rw [if_neg (by rw [show (48 : Int32) = nI 48 from rfl, nn_le (by decide) (by omega)]; omega), wo_8 hb.1 hok h6]
        dsimp only [gv, Option.bind_some]
        cases hg : bG (qF e g) 6 with
        | none =>
          rw [if_pos (show wI none = -1 from rfl)]
          exact ⟨_, I, A, B, rfl, Or.inl rfl, BR_r, h53, h52, by show o.length ≤ 48; omega, h54⟩
        | some p =>
          obtain ⟨p1, p2, p3⟩ := bG_s hg
          have p1 : p.1 < 48 := p1
          have hgp := (qF_g p2).1
          rw [show wI (some p) = nI p.1 from rfl, if_neg (nI_m1 (by omega)), show nI p.1 / (8 : Int32) = nI (p.1 / 8) from pk_div (by omega) (by decide) (by decide)]
          rw [show nI p.1 - nI (p.1 / 8) * (8 : Int32) = nI (p.1 % 8) by rw [← pk_rem (a := p.1) (d := 8) (by omega) (by decide) (by decide), pk_div (by omega) (by decide) (by decide)]; rfl]
          rw [ix_n (show o.length < 2 ^ 31 by omega), ix_n (show p.1 / 8 < 2 ^ 31 by omega), nI_1]
          simp only [ck, if_pos (inB_n (show o.length < 48 by omega) (by decide)), if_pos (inB_n (show p.1 / 8 < 6 by omega) (by decide))]
          rw [va_up_ne _ _ (show ¬ 60 = 52 by decide)]
          generalize hI1 : upd I 53 (nI (o.length + 1)) = I1
          generalize hA1 : va_up (va_up A 52 (upd (A 52) o.length (nI p.1))) 60 (upd (A 60) (p.1 / 8) (A 60 (p.1 / 8) ||| 1 <<< (nI (p.1 % 8) &&& 31))) = A1
          have b1 : BS e I1 J A1 := by subst hI1; subst hA1; exact BS_x hb rfl ⟨rfl, rfl⟩ ⟨rfl, rfl, rfl, rfl, rfl⟩
          have m1 : ∀ t, t < 6 → ∀ i, i < 8 → bb (A1 60 t) i = ad g p.1 (8 * t + i) := by
            intro t ht i hi
            subst hA1
            rw [va_up_self]
            by_cases q : t = p.1 / 8
            · subst q
              rw [upd_s, bb_or, s1_i (by omega) (by omega), hm _ ht i hi]
              unfold ad
              by_cases c : 8 * (p.1 / 8) + i = p.1
              · rw [if_pos c, decide_eq_true (by omega), Bool.or_true]
              · rw [if_neg c, decide_eq_false (by omega), Bool.or_false]
            · rw [upd_n _ _ q, hm t ht i hi]
              exact (if_neg (by omega)).symm
          obtain ⟨A2, B2, q1, q2, q3, q4, q5, q6, q7⟩ := lk_7 (g := ad g p.1) (B := B) b1 (show p.1 / 8 < 6 by omega) (m1 _ (by omega))
          rw [q1]
          dsimp only [Option.bind_some]
          have loc : ∀ t, ¬ t = p.1 / 8 → ∀ i, i / 8 = t → g i = ad g p.1 i := fun t h i hi => (if_neg (fun q => h (by rw [← hi, q]))).symm
          have hlow : lowF e (ad g p.1) 6 = if okF e (ad g p.1) (p.1 / 8) = true then none else some (p.1 / 8) := low_1 (by omega) (fun i hi hne => by rw [← okF_x (e := e) (fun _ _ _ => rfl) (loc i hne)]; exact hok i hi)
          generalize hI2 : (if okF e (ad g p.1) (p.1 / 8) = true then I1 else upd I1 54 (nI (p.1 / 8))) = I2 at *
          have i2 : ∀ k, ¬ k = 54 → I2 k = I1 k := by
            intro k hk
            subst hI2
            split
            · rfl
            · exact upd_n _ _ hk
          have bu : BU e (ad g p.1) (o ++ [p.1]) I2 J A2 B2 := by
            refine ⟨BS_x b1 (i2 57 (by decide)) ⟨rfl, rfl⟩ ⟨q2 10 (by decide) (by decide), q2 51 (by decide) (by decide), q2 14 (by decide) (by decide), q2 55 (by decide) (by decide), q2 56 (by decide) (by decide)⟩, fun t ht i hi => by rw [q2 60 (by decide) (by decide)]; exact m1 t ht i hi, fun t ht => ?_, ?_, fun i hi => ?_, ?_, ?_⟩
            · by_cases q : t = p.1 / 8
              · subst q; exact ⟨q6, q7⟩
              · rw [q3 t q, q5 t q, ← lk_x (e := e) (fun _ _ _ => rfl) (fun _ _ => rfl) (loc t q)]
                subst hA1
                exact h6 t ht
            · rw [i2 53 (by decide), ← hI1, upd_s, List.length_append]; rfl
            · rw [q2 52 (by decide) (by decide), ← hA1, va_up_ne _ _ (by decide), va_up_self]
              rw [List.length_append] at hi
              have hi : i < o.length + 1 := hi
              by_cases q : i = o.length
              · subst q; rw [upd_s]; simp
              · rw [upd_n _ _ q, h52 i (by omega)]
                congr 1
                simp [List.getElem?_append_left (show i < o.length by omega)]
            · have hc := cn_ad (b := 0) hgp 48
              rw [if_pos (by omega)] at hc
              rw [List.length_append]
              show _ + (o.length + 1) = 48
              omega
            · rw [hlow, ← hI2]
              split
              · rw [← hI1, upd_n _ _ (by decide)]; exact h54
              · rw [upd_s]; rfl
          have hc := cn_ad (b := 0) hgp 48
          rw [if_pos (by omega)] at hc
          obtain ⟨r, I3, A3, B3, r1, r2, r3, r4, r5, r6, r7⟩ := ih (ad g p.1) (o ++ [p.1]) I2 A2 B2 (by omega) bu
          refine ⟨r, I3, A3, B3, r1, r2, BR_t ⟨fun k k1 k2 => ?_, fun a a1 a2 a3 a4 => ?_, q4⟩ r3, r4, r5, r6, r7⟩
          · rw [i2 k k2, ← hI1, upd_n _ _ k1]
          · rw [q2 a a3 a4, ← hA1, va_up_ne _ _ a2, va_up_ne _ _ a1]
theorem bl_7 (he : EB e) : ∀ (n t : Nat) (A : Nat → Nat → Int32) (B : Nat → Nat → Int64), 6 < t + n → t ≤ 6 → BS e I J A → (∀ u, u < t → ∀ i, i < 8 → bb (A 60 u) i = false) → (∀ u, u < t → A 61 u = wI (lk e (fun _ => false) u) ∧ B 62 u = lI (xI (lk e (fun _ => false) u))) → ∃ A2 B2, lX1_breakUp_18 n (nI t) I J A B = some (I, A2, B2) ∧ BR I I A A2 B B2 ∧ A2 52 = A 52 ∧ BS e I J A2 ∧ (∀ u, u < 6 → ∀ i, i < 8 → bb (A2 60 u) i = false) ∧ (∀ u, u < 6 → A2 61 u = wI (lk e (fun _ => false) u) ∧ B2 62 u = lI (xI (lk e (fun _ => false) u))) := by
  intro n
  induction n with
  | zero => intro t A B h1 h2; omega
  | succ n ih =>
    intro t A B h1 h2 hb hm h6
    rw [lX1_breakUp_18]
    by_cases hi : t = 6
    · subst hi
      rw [if_pos (by decide)]
      exact ⟨A, B, rfl, BR_r, rfl, hb, hm, h6⟩
    · rw [if_neg (by rw [show (6 : Int32) = nI 6 from rfl, nn_le (by decide) (by omega)]; omega)]
      dsimp only [gv]
      rw [ix_n (show t < 2 ^ 31 by omega), nI_1, ck, if_pos (inB_n (show t < 6 by omega) (by decide))]
      have b1 : BS e I J (va_up A 60 (upd (A 60) t 0)) := BS_x hb rfl ⟨rfl, rfl⟩ ⟨rfl, rfl, rfl, rfl, rfl⟩
      obtain ⟨A2, B2, q1, q2, q3, q4, q5, q6, q7⟩ := lk_7 (g := fun _ => false) (B := B) b1 (show t < 6 by omega) (fun i hi => by rw [va_up_self, upd_s, bb_0])
      rw [ok_0 he (by omega), if_pos rfl] at q1
      rw [q1]
      dsimp only [Option.bind_some]
      have b2 : BS e I J A2 := BS_x b1 rfl ⟨rfl, rfl⟩ ⟨q2 10 (by decide) (by decide), q2 51 (by decide) (by decide), q2 14 (by decide) (by decide), q2 55 (by decide) (by decide), q2 56 (by decide) (by decide)⟩
      obtain ⟨A3, B3, r1, r2, r3, r4, r5, r6⟩ := ih (t + 1) A2 B2 (by omega) (by omega) b2 (fun u hu i hi => by
        rw [q2 60 (by decide) (by decide), va_up_self]
        by_cases q : u = t
        · subst q; rw [upd_s, bb_0]
        · rw [upd_n _ _ q]; exact hm u (by omega) i hi) (fun u hu => by
        by_cases q : u = t
        · subst q; exact ⟨q6, q7⟩
        · rw [q3 u q, q5 u q]; exact h6 u (by omega))
      refine ⟨A3, B3, r1, BR_t ⟨fun _ _ _ => rfl, fun a a1 a2 a3 a4 => ?_, q4⟩ r2, ?_, r4, r5, r6⟩
      · rw [q2 a a3 a4, va_up_ne _ _ a2]
      · rw [r3, q2 52 (by decide) (by decide)]; rfl
/-- joints go, one behind the other -/
theorem bw_7 {J2 : Nat → Int64} {x y : Int32} (hbl : sX1_blow x y I J A B = some J2) (hb : BS e I J2 A) : ∃ I2 A2 B2, sX1_breakUp x y I J A B = some (I2, J2, A2, B2) ∧ BR I I2 A A2 B B2 ∧ I2 53 = nI (runG e FU (fun _ => false) []).1.length ∧ (∀ i, i < (runG e FU (fun _ => false) []).1.length → A2 52 i = nI ((runG e FU (fun _ => false) []).1.getD i 0)) ∧ (runG e FU (fun _ => false) []).1.length ≤ 48 ∧ I2 54 = fI (runG e FU (fun _ => false) []).2 := by
  unfold sX1_breakUp
  rw [hbl]
  dsimp only [gv, Option.bind_some]
  generalize hI1 : upd (upd I 53 0) 54 (-1) = I1
  have b1 : BS e I1 J2 A := by subst hI1; exact BS_x hb rfl ⟨rfl, rfl⟩ ⟨rfl, rfl, rfl, rfl, rfl⟩
  obtain ⟨A2, B2, q1, q2, q3, q4, q5, q6⟩ := bl_7 hb.1 FU 0 A B (by unfold FU; omega) (by omega) b1 (fun u hu => by omega) (fun u hu => by omega)
  have q1 : lX1_breakUp_18 FU 0 I1 J2 A B = some (I1, A2, B2) := q1
  rw [q1]
  dsimp only [Option.bind_some]
  have bu : BU e (fun _ => false) [] I1 J2 A2 B2 := by
    refine ⟨q4, q5, q6, by subst hI1; rfl, fun i hi => absurd hi (Nat.not_lt_zero i), by decide, ?_⟩
    rw [lowF_a (fun i hi => ok_0 hb.1 hi)]
    subst hI1
    rfl
  obtain ⟨r, I3, A3, B3, r1, r2, r3, r4, r5, r6, r7⟩ := bu_7 FU (fun _ => false) [] I1 A2 B2 (Nat.lt_of_le_of_lt (cn_le 48) (by unfold FU; omega)) bu
  rw [r1]
  refine ⟨I3, A3, B3, ?_, BR_t ⟨fun k k1 k2 => by rw [← hI1, upd_n _ _ k2, upd_n _ _ k1], q2.2.1, q2.2.2⟩ r3, r4, r5, r6, r7⟩
  rcases r2 with rfl | rfl <;> rfl
end S5
