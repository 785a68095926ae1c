theorem run_s {e : Nat → Nat → Int} : ∀ (n : Nat) (g : Nat → Bool) (o : List Nat), cn g 0 48 < n → runG e (n + 1) g o = runG e n g o := by
  intro n
  induction n with
  | zero => intro g o h; omega
  | succ n ih =>
    intro g o h
    rw [runG, runG.eq_def e (n + 1) g o]
    dsimp only
    cases hl : lowF e g 6 with
    | some t => rfl
    | none =>
      dsimp only
      cases hb : bG (qF e g) 6 with
      | none => rfl
      | some p =>
        obtain ⟨p1, p2, -⟩ := bG_s hb
        have hc := cn_ad (b := 0) (qF_g p2).1 48
        rw [if_pos (by omega)] at hc
        exact ih _ _ (by omega)
def dw (q : Nat) : Int32 := match q with | 0 => -1 | q + 1 => nI q
theorem dw_s : ∀ q, q < 6 → dw (q + 1) + (-1) = dw q := by decide +kernel
def LO (e : Nat → Nat → Int) (g : Nat → Bool) (q : Nat) (o : Option Nat) : Prop := (o = none → ∀ t, q ≤ t → t < 6 → okF e g t = true) ∧ ∀ u, o = some u → q ≤ u ∧ u < 6 ∧ ¬ okF e g u = true ∧ ∀ t, q ≤ t → t < u → okF e g t = true
theorem LO_0 {e : Nat → Nat → Int} {g : Nat → Bool} {o : Option Nat} (h : LO e g 0 o) : o = lowF e g 6 := by
  cases hl : lowF e g 6 with
  | none =>
    have h1 := lowF_n hl
    cases o with
    | none => rfl
    | some u => obtain ⟨-, a, b, -⟩ := h.2 u rfl; exact absurd (h1 u a) b
  | some v =>
    obtain ⟨v1, v2, v3⟩ := lowF_s hl
    cases o with
    | none => exact absurd (h.1 rfl v (by omega) v1) v2
    | some u =>
      obtain ⟨-, a, b, d⟩ := h.2 u rfl
      by_cases q : u = v
      · rw [q]
      · exfalso
        by_cases r : u < v
        · exact b (v3 u r)
        · exact v2 (d v (by omega) (by omega))
section S9
variable {e : Nat → Nat → Int} {w : Nat} {c : Int32}
/-- gone, as the reference holds it -/
abbrev GN (g : Nat → Bool) (A : Nat → Nat → Int32) : Prop := ∀ i, i < 48 → A 4 i = if g i = true then 1 else 0
theorem b29 {g : Nat → Bool} {A : Nat → Nat → Int32} {x4 : Int32} {x5 : Int64} (hr : RS e w c A) (hg : GN g A) : ∀ (q n : Nat) (I : Nat → Int32) (J : Nat → Int64) (B : Nat → Nat → Int64) (o : Option Nat), q < n → q ≤ 6 → I 16 = fI o → LO e g q o → SP (lX8_blows_29 n (nI w) c x4 x5 (dw q) I J A B) (fun a => a.1 16 = fI (lowF e g 6) ∧ (∀ k, ¬ k = 16 → a.1 k = I k) ∧ (∀ k, ¬ k = 7 → ¬ k = 10 → ¬ k = 11 → a.2.1 k = J k) ∧ ∀ b, ¬ b = 5 → ¬ b = 6 → a.2.2 b = B b) := by
  intro q
  induction q with
  | zero =>
    intro n I J B o hn _ h16 hlo
    obtain ⟨m, rfl⟩ : ∃ m, n = m + 1 := ⟨n - 1, by omega⟩
    rw [lX8_blows_29]
    refine sp_t (by decide) (sp_some ⟨?_, fun _ _ => rfl, fun _ _ _ _ => rfl, fun _ _ _ => rfl⟩)
    rw [← LO_0 hlo]
    exact h16
  | succ q ih =>
    intro n I J B o hn hq h16 hlo
    obtain ⟨m, rfl⟩ : ∃ m, n = m + 1 := ⟨n - 1, by omega⟩
    rw [lX8_blows_29, dw_s q (by omega), show dw (q + 1) = nI q from rfl]
    refine sp_f (nI_n0 (by omega)) ?_
    obtain ⟨J2, B2, q1, q2, q3, -⟩ := ly_8 (g := g) (t := q) (I := I) (J := J) (B := B) hr (fun i h1 _ => hg i h1) (by omega)
    refine sp_bind q1 ?_
    dsimp only
    by_cases hok : okF e g q = true
    · refine sp_f (by rw [if_pos hok]; decide) ?_
      refine sp_gv ?_
      obtain ⟨a, r1, r2, r3, r4, r5⟩ := ih m I J2 B2 o (by omega) (by omega) h16 ⟨fun h t t1 t2 => by
        by_cases z : t = q
        · rw [z]; exact hok
        · exact hlo.1 h t (by omega) t2, fun u hu => by
        obtain ⟨u1, u2, u3, u4⟩ := hlo.2 u hu
        exact ⟨by omega, u2, u3, fun t t1 t2 => by
          by_cases z : t = q
          · rw [z]; exact hok
          · exact u4 t (by omega) t2⟩⟩
      exact ⟨a, r1, r2, r3, fun k k1 k2 k3 => by rw [r4 k k1 k2 k3, q2 k k1 k2 k3], fun b b1 b2 => by rw [r5 b b1 b2, q3 b b1 b2]⟩
    · refine sp_t (by rw [if_neg hok]) ?_
      refine sp_gv ?_
      refine sp_gv ?_
      obtain ⟨a, r1, r2, r3, r4, r5⟩ := ih m (upd I 16 (nI q)) J2 B2 (some q) (by omega) (by omega) (upd_s _ _ _) ⟨fun h => (by cases h), fun u hu => by
        cases hu
        exact ⟨by omega, by omega, hok, fun t t1 t2 => by omega⟩⟩
      exact ⟨a, r1, r2, fun k hk => by rw [r3 k hk, upd_n _ _ hk], fun k k1 k2 k3 => by rw [r4 k k1 k2 k3, q2 k k1 k2 k3], fun b b1 b2 => by rw [r5 b b1 b2, q3 b b1 b2]⟩
theorem b91 {g : Nat → Bool} {t : Nat} {A : Nat → Nat → Int32} {I : Nat → Int32} {B : Nat → Nat → Int64} {acc : Option (Nat × Int)} (hr : RS e w c A) (hg : GN g A) (ht : t < 6) (hok : okF e g t = true) (ha : ∀ p, acc = some p → p.1 < 48 ∧ p.2.natAbs ≤ 190636416000000000) : ∀ (n i : Nat) (J : Nat → Int64) (x5 : Int64), 8 < i + n → i ≤ 8 → LY e g t J B → (∀ p, cb acc (bT (qF e g) (8 * t) i) = some p → x5 = lI p.2) → SP (lX8_blows_91 n (nI w) c (wI (cb acc (bT (qF e g) (8 * t) i))) x5 (nI t) (nI (8 * t + i)) I J A B) (fun a => a.1 = wI (cb acc (bT (qF e g) (8 * t) 8)) ∧ (∀ p, cb acc (bT (qF e g) (8 * t) 8) = some p → a.2.1 = lI p.2) ∧ ∀ k, ¬ k = 12 → ¬ k = 13 → a.2.2 k = J k) := by
  obtain ⟨he, h0, h1, h2, -⟩ := hr
  intro n
  induction n with
  | zero => intro i J x5 n1 n2; omega
  | succ n ih =>
    intro i J x5 n1 n2 hly hx
    rw [lX8_blows_91]
    have e8 : (8 : Int32) * nI t + 8 = nI (8 * t + 8) := by rw [show (8 : Int32) = nI 8 from rfl, pk_mul, nI_add]
    rw [e8]
    by_cases hi : i = 8
    · subst hi
      exact sp_t ((nn_le (by omega) (by omega)).mpr (by omega)) (sp_some ⟨rfl, hx, fun _ _ _ => rfl⟩)
    · refine sp_f (by rw [nn_le (by omega) (by omega)]; omega) ?_
      have hj : 8 * t + i < 48 := by omega
      have j8 : (8 * t + i) / 8 = t := by omega
      refine sp_ck (inB_n hj (by decide)) ?_
      rw [ix_n (by omega), hg _ hj, nI_1]
      have hstep : bT (qF e g) (8 * t) (i + 1) = cb (bT (qF e g) (8 * t) i) (sg (qF e g) (8 * t + i)) := rfl
      have skip : sg (qF e g) (8 * t + i) = none → ∀ J' : Nat → Int64, (∀ k, ¬ k = 12 → ¬ k = 13 → J' k = J k) → SP (lX8_blows_91 n (nI w) c (wI (cb acc (bT (qF e g) (8 * t) i))) x5 (nI t) (nI (8 * t + i + 1)) I J' A B) (fun a => a.1 = wI (cb acc (bT (qF e g) (8 * t) 8)) ∧ (∀ p, cb acc (bT (qF e g) (8 * t) 8) = some p → a.2.1 = lI p.2) ∧ ∀ k, ¬ k = 12 → ¬ k = 13 → a.2.2 k = J k) := by
        intro hs J' hJ'
        have e1 : bT (qF e g) (8 * t) (i + 1) = bT (qF e g) (8 * t) i := by rw [hstep, hs, cb_r]
        have := ih (i + 1) J' x5 (by omega) (by omega) ⟨by rw [hJ' 7 (by decide) (by decide)]; exact hly.1, by rw [hJ' 10 (by decide) (by decide)]; exact hly.2.1, by rw [hJ' 11 (by decide) (by decide)]; exact hly.2.2.1, hly.2.2.2⟩ (by rw [e1]; exact hx)
        rw [e1] at this
        obtain ⟨a, a1, a2, a3, a4⟩ := this
        exact ⟨a, a1, a2, a3, fun k k1 k2 => by rw [a4 k k1 k2, hJ' k k1 k2]⟩
      cases hgj : g (8 * t + i) with
      | true =>
        refine sp_f (by rw [if_pos rfl]; decide) (sp_gv (skip ?_ J (fun _ _ _ => rfl)))
        unfold sg qF
        rw [if_pos hgj]
      | false =>
        refine sp_t rfl ?_
        obtain ⟨J2, p1, p2, p3, p4⟩ := pu_8 (g := g) (x := 1) (I := I) hj h0 h2 (by rw [j8]; exact hly)
        refine sp_bind p1 ?_
        obtain ⟨h, h3, h4⟩ := h1 _ hj
        refine sp_bind (h4 _ _ _) ?_
        have hov : J2 12 - h.toInt64 * J2 13 = lI (2 * oF e g (8 * t + i)) := by
          rw [p3, p4, if_neg (by decide), l_32 h3, ← l_mul, ← l_sub, id_o]
          rfl
        refine sp_gvE hov ?_
        have hob := oF_b (g := g) he hj
        have hd := dF_1 he hj hgj (by rw [j8]; exact hok)
        have hdb : (dF e g ((8 * t + i) / 8) ((8 * t + i) / 2 % 4)).natAbs ≤ 839808000 := dF_b he (by omega) (by omega)
        by_cases hle : oF e g (8 * t + i) ≤ 0
        · refine sp_f (by rw [lg_cmp_gt, l_z, l_lt (by decide) (by omega)]; omega) (sp_gv (skip ?_ J2 p2))
          unfold sg qF
          rw [if_neg (by rw [hgj]; decide), if_pos hle]
        · refine sp_t (by rw [lg_cmp_gt, l_z, l_lt (by decide) (by omega)]; omega) ?_
          rw [p3]
          refine sp_bind (th_8 (by omega) hd hdb) ?_
          have hq : qF e g (8 * t + i) = some ((oF e g (8 * t + i)).tdiv (dF e g ((8 * t + i) / 8) ((8 * t + i) / 2 % 4))) := by
            unfold qF
            rw [if_neg (by rw [hgj]; decide), if_neg hle]
          have hv := qF_b he hj hq
          have hs : sg (qF e g) (8 * t + i) = some (8 * t + i, (oF e g (8 * t + i)).tdiv (dF e g ((8 * t + i) / 8) ((8 * t + i) / 2 % 4))) := by
            unfold sg
            rw [hq]
          generalize (oF e g (8 * t + i)).tdiv (dF e g ((8 * t + i) / 8) ((8 * t + i) / 2 % 4)) = v at hs hv
          have e1 : cb acc (bT (qF e g) (8 * t) (i + 1)) = cb (cb acc (bT (qF e g) (8 * t) i)) (some (8 * t + i, v)) := by rw [hstep, hs, cb_a]
          have lyJ : LY e g t J2 B := ⟨by rw [p2 7 (by decide) (by decide)]; exact hly.1, by rw [p2 10 (by decide) (by decide)]; exact hly.2.1, by rw [p2 11 (by decide) (by decide)]; exact hly.2.2.1, hly.2.2.2⟩
          have take : cb acc (bT (qF e g) (8 * t) (i + 1)) = some (8 * t + i, v) → SP (lX8_blows_91 n (nI w) c (nI (8 * t + i)) (lI v) (nI t) (nI (8 * t + i + 1)) I J2 A B) (fun a => a.1 = wI (cb acc (bT (qF e g) (8 * t) 8)) ∧ (∀ p, cb acc (bT (qF e g) (8 * t) 8) = some p → a.2.1 = lI p.2) ∧ ∀ k, ¬ k = 12 → ¬ k = 13 → a.2.2 k = J k) := by
            intro ht
            have := ih (i + 1) J2 (lI v) (by omega) (by omega) lyJ (fun p hp => by rw [ht] at hp; cases hp; rfl)
            rw [ht] at this
            obtain ⟨a, a1, a2, a3, a4⟩ := this
            exact ⟨a, a1, a2, a3, fun k k1 k2 => by rw [a4 k k1 k2, p2 k k1 k2]⟩
          cases hacc : cb acc (bT (qF e g) (8 * t) i) with
          | none =>
            refine sp_t rfl (sp_gv ?_)
            rw [hacc] at e1
            exact take e1
          | some r =>
            have hrb : r.1 < 48 ∧ r.2.natAbs ≤ 190636416000000000 := by
              rcases cb_s hacc with h | h
              · exact ha r h
              · obtain ⟨r1, r2, r3⟩ := bT_s h
                exact ⟨by omega, qF_b he (by omega) r3⟩
            have hx5 := hx r hacc
            rw [hacc] at e1
            refine sp_f (nI_m1 (by omega)) ?_
            rw [hx5]
            have e2 : cb (some r) (some (8 * t + i, v)) = if r.2 < v then some (8 * t + i, v) else some r := rfl
            by_cases hlt : r.2 < v
            · refine sp_t (by rw [lg_cmp_gt, l_lt (by omega) (by omega)]; exact hlt) (sp_gv ?_)
              rw [e2, if_pos hlt] at e1
              exact take e1
            · refine sp_f (by rw [lg_cmp_gt, l_lt (by omega) (by omega)]; exact hlt) (sp_gv ?_)
              rw [e2, if_neg hlt] at e1
              have := ih (i + 1) J2 (lI r.2) (by omega) (by omega) lyJ (fun p hp => by rw [e1] at hp; cases hp; rfl)
              rw [e1] at this
              obtain ⟨a, a1, a2, a3, a4⟩ := this
              exact ⟨a, a1, a2, a3, fun k k1 k2 => by rw [a4 k k1 k2, p2 k k1 k2]⟩
theorem b60 {g : Nat → Bool} {A : Nat → Nat → Int32} {I : Nat → Int32} (hr : RS e w c A) (hg : GN g A) (hok : ∀ t, t < 6 → okF e g t = true) (h16 : I 16 = -1) : ∀ (n t : Nat) (J : Nat → Int64) (B : Nat → Nat → Int64) (x5 : Int64), 6 < t + n → t ≤ 6 → (∀ p, bG (qF e g) t = some p → x5 = lI p.2) → SP (lX8_blows_60 n (nI w) c (wI (bG (qF e g) t)) x5 (nI t) I J A B) (fun a => a.1 = wI (bG (qF e g) 6) ∧ (∀ k, ¬ k = 7 → ¬ k = 10 → ¬ k = 11 → ¬ k = 12 → ¬ k = 13 → a.2.1 k = J k) ∧ ∀ b, ¬ b = 5 → ¬ b = 6 → a.2.2 b = B b) := by
  intro n
  induction n with
  | zero => intro t J B x5 h1 h2; omega
  | succ n ih =>
    intro t J B x5 h1 h2 hx
    rw [lX8_blows_60]
    by_cases hi : t = 6
    · subst hi
      exact sp_t (by decide) (sp_some ⟨rfl, fun _ _ _ _ _ _ => rfl, fun _ _ _ => rfl⟩)
    · refine sp_f (by rw [show (6 : Int32) = nI 6 from rfl, nn_le (by decide) (by omega)]; omega) (sp_t h16 ?_)
      obtain ⟨J2, B2, q1, q2, q3, q4, q5, q6, q7, q8⟩ := ly_8 (g := g) (t := t) (I := I) (J := J) (B := B) hr (fun i h1 _ => hg i h1) (by omega)
      refine sp_bind q1 ?_
      refine sp_gv ?_
      have hw := ((okF_i _ _ _).mp (hok t (by omega))).1
      rw [show (8 : Int32) * nI t = nI (8 * t + 0) by rw [show (8 : Int32) = nI 8 from rfl, pk_mul]; rfl, nI_1]
      have hb := b91 (acc := bG (qF e g) t) (I := I) hr hg (show t < 6 by omega) (hok t (by omega)) (fun p hp => by
        obtain ⟨p1, p2, -⟩ := bG_s hp
        exact ⟨by omega, qF_b hr.1 (by omega) p2⟩) FU 0 J2 x5 (by unfold FU; omega) (by omega) ⟨q4, q5, q6, q7, q8 hw⟩ (by rw [show bT (qF e g) (8 * t) 0 = none from rfl, cb_r]; exact hx)
      rw [show bT (qF e g) (8 * t) 0 = none from rfl, cb_r] at hb
      obtain ⟨⟨x4', x5', J3⟩, r1, r2, r3, r4⟩ := hb
      refine sp_bind r1 ?_
      refine sp_gv ?_
      have r2 : x4' = wI (bG (qF e g) (t + 1)) := r2
      subst r2
      obtain ⟨a, s1, s2, s3, s4⟩ := ih (t + 1) J3 B2 x5' (by omega) (by omega) r3
      exact ⟨a, s1, s2, fun k k1 k2 k3 k4 k5 => (s3 k k1 k2 k3 k4 k5).trans ((r4 k k4 k5).trans (q2 k k1 k2 k3)), fun b b1 b2 => by rw [s4 b b1 b2, q3 b b1 b2]⟩
/-- what the reference leaves behind joints that went -/
def MR (I I2 : Nat → Int32) (J J2 : Nat → Int64) (A A2 : Nat → Nat → Int32) (B B2 : Nat → Nat → Int64) : Prop := (∀ k, ¬ k = 15 → ¬ k = 16 → I2 k = I k) ∧ (∀ k, ¬ k = 7 → ¬ k = 10 → ¬ k = 11 → ¬ k = 12 → ¬ k = 13 → J2 k = J k) ∧ (∀ a, ¬ a = 4 → ¬ a = 14 → A2 a = A a) ∧ (∀ b, ¬ b = 5 → ¬ b = 6 → B2 b = B b)
theorem b16 : ∀ (n : Nat) (g : Nat → Bool) (o : List Nat) (I : Nat → Int32) (J : Nat → Int64) (A : Nat → Nat → Int32) (B : Nat → Nat → Int64), cn g 0 48 < n → RS e w c A → GN g A → I 16 = -1 → I 15 = nI o.length → (∀ i, i < o.length → A 14 i = nI (o.getD i 0)) → cn g 0 48 + o.length = 48 → SP (lX8_blows_16 (n + 1) (nI w) c 1 I J A B) (fun a => MR I a.1 J a.2.1 A a.2.2.1 B a.2.2.2 ∧ a.1 15 = nI (runG e n g o).1.length ∧ (∀ i, i < (runG e n g o).1.length → a.2.2.1 14 i = nI ((runG e n g o).1.getD i 0)) ∧ a.1 16 = fI (runG e n g o).2) := by
  intro n
  induction n with
  | zero => intro g o I J A B h; omega
  | succ n ih =>
    intro g o I J A B hn hr hg h16 h15 h14 hcn
    rw [lX8_blows_16, runG]
    refine sp_f (by decide) ?_
    obtain ⟨⟨I1, J1, B1⟩, q1, q2, q3, q4, q5⟩ := b29 (x4 := -1) (x5 := 0) hr hg 6 FU I J B none (by unfold FU; omega) (by omega) h16 ⟨fun _ t t1 t2 => by omega, fun u hu => by cases hu⟩
    refine sp_bind q1 ?_
    have q2 : I1 16 = fI (lowF e g 6) := q2
    dsimp only
    cases hl : lowF e g 6 with
    | some t0 =>
      obtain ⟨t1, -, -⟩ := lowF_s hl
      rw [hl] at q2
      have h60 : lX8_blows_60 FU (nI w) c (-1) 0 0 I1 J1 A B1 = some (-1, J1, B1) := by
        rw [show FU = 999999 + 1 from rfl, lX8_blows_60, if_neg (by decide), if_neg (by rw [q2]; exact nI_m1 (by omega))]
      refine sp_bind h60 ?_
      refine sp_gv ?_
      refine sp_t rfl ?_
      rw [if_pos rfl, lX8_blows_16]
      refine sp_t rfl (sp_some ⟨⟨fun k _ k2 => q3 k k2, fun k k1 k2 k3 _ _ => q4 k k1 k2 k3, fun _ _ _ => rfl, q5⟩, ?_, h14, q2⟩)
      exact (q3 15 (by decide)).trans h15
    | none =>
      rw [hl] at q2
      have hok := lowF_n hl
      have hb := b60 (I := I1) hr hg hok q2 FU 0 J1 B1 0 (by unfold FU; omega) (by omega) (fun p hp => by cases hp)
      obtain ⟨⟨x4', J2, B2⟩, r1, r2, r3, r4⟩ := hb
      have r2 : x4' = wI (bG (qF e g) 6) := r2
      subst r2
      refine sp_bind r1 ?_
      refine sp_gv ?_
      dsimp only
      cases hgb : bG (qF e g) 6 with
      | none =>
        refine sp_t rfl ?_
        rw [if_pos (show wI none = -1 from rfl), lX8_blows_16]
        refine sp_t rfl (sp_some ⟨⟨fun k _ k2 => q3 k k2, fun k k1 k2 k3 k4 k5 => (r3 k k1 k2 k3 k4 k5).trans (q4 k k1 k2 k3), fun _ _ _ => rfl, fun b b1 b2 => (r4 b b1 b2).trans (q5 b b1 b2)⟩, ?_, h14, q2⟩)
        exact (q3 15 (by decide)).trans h15
      | some p =>
        obtain ⟨p1, p2, p3⟩ := bG_s hgb
        have p1 : p.1 < 48 := p1
        have hgp := (qF_g p2).1
        have hc := cn_ad (b := 0) hgp 48
        rw [if_pos (by omega)] at hc
        rw [show wI (some p) = nI p.1 from rfl, if_neg (nI_m1 (by omega)), show I1 15 = nI o.length from (q3 15 (by decide)).trans h15, ix_n (show p.1 < 2 ^ 31 by omega), ix_n (show o.length < 2 ^ 31 by omega), nI_1]
        refine sp_f (by decide) (sp_ck (inB_n p1 (by decide)) ?_)
        refine sp_gv (sp_ck (inB_n (by omega) (by decide)) ?_)
        refine sp_gv ?_
        refine sp_gv ?_
        obtain ⟨n', rfl⟩ : ∃ m, n = m + 1 := ⟨n - 1, by omega⟩
        obtain ⟨a, s1, s2, s3, s4, s5⟩ := ih (ad g p.1) (o ++ [p.1]) (upd I1 15 (nI (o.length + 1))) J2 (va_up (va_up A 4 (upd (A 4) p.1 1)) 14 (upd (A 14) o.length (nI p.1))) B2 (by omega) (RS_x hr rfl) (fun i hi => by
            rw [va_up_ne _ _ (by decide), va_up_self]
            unfold ad
            by_cases z : i = p.1
            · subst z; rw [upd_s, if_pos rfl, if_pos rfl]
            · rw [upd_n _ _ z, if_neg z]; exact hg i hi) ((upd_n _ _ (by decide)).trans q2) (by rw [upd_s, List.length_append]; rfl) (fun i hi => by
            rw [va_up_self]
            rw [List.length_append] at hi
            have hi : i < o.length + 1 := hi
            by_cases z : i = o.length
            · subst z; rw [upd_s]; simp
            · rw [upd_n _ _ z, h14 i (by omega)]
              congr 1
              simp [List.getElem?_append_left (show i < o.length by omega)]) (by rw [List.length_append]; show _ + (o.length + 1) = 48; omega)
        refine ⟨a, s1, ⟨fun k k1 k2 => ?_, fun k k1 k2 k3 k4 k5 => ?_, fun a a1 a2 => ?_, fun b b1 b2 => ?_⟩, s3, s4, s5⟩
        · rw [s2.1 k k1 k2, upd_n _ _ k1]; exact q3 k k2
        · rw [s2.2.1 k k1 k2 k3 k4 k5]; exact (r3 k k1 k2 k3 k4 k5).trans (q4 k k1 k2 k3)
        · rw [s2.2.2.1 a a1 a2, va_up_ne _ _ a2, va_up_ne _ _ a1]
        · rw [s2.2.2.2 b b1 b2]; exact (r4 b b1 b2).trans (q5 b b1 b2)
theorem bw_8 {I : Nat → Int32} {J : Nat → Int64} {A : Nat → Nat → Int32} {B : Nat → Nat → Int64} (hr : RS e w c A) : SP (sX8_blows (nI w) c I J A B) (fun a => MR I a.1 J a.2.1 A a.2.2.1 B a.2.2.2 ∧ a.1 15 = nI (runG e FU (fun _ => false) []).1.length ∧ (∀ i, i < (runG e FU (fun _ => false) []).1.length → a.2.2.1 14 i = nI ((runG e FU (fun _ => false) []).1.getD i 0)) ∧ a.1 16 = fI (runG e FU (fun _ => false) []).2) := by
  unfold sX8_blows
  obtain ⟨A2, q1, q2, q3⟩ := ng_9 (I := I) (J := J) (A := A) (B := B)
  refine sp_bind q1 ?_
  refine sp_gv ?_
  refine sp_gv ?_
  obtain ⟨a, s1, s2, s3, s4, s5⟩ := b16 999999 (fun _ => false) [] (upd (upd I 15 0) 16 (-1)) J A2 B (Nat.lt_of_le_of_lt (cn_le 48) (by omega)) (RS_x hr (q2 1 (by decide))) q3 (upd_s _ _ _) rfl (fun i hi => absurd hi (Nat.not_lt_zero i)) (by decide)
  rw [← run_s 999999 (fun _ => false) [] (Nat.lt_of_le_of_lt (cn_le 48) (by omega))] at s3 s4 s5
  refine sp_bind (show lX8_blows_16 FU (nI w) c 1 _ J A2 B = some a from s1) (sp_some ⟨⟨fun k k1 k2 => ?_, s2.2.1, fun a a1 a2 => ?_, s2.2.2.2⟩, s3, s4, s5⟩)
  · rw [s2.1 k k1 k2, upd_n _ _ k2, upd_n _ _ k1]
  · rw [s2.2.2.1 a a1 a2, q2 a a1]
end S9
