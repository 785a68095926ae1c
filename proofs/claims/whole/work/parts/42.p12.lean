section P14
variable {X : Txt → Int32 → (Nat → Int32) → (Nat → Int32) → Prop} {I I1 : Nat → Int32} {J J1 : Nat → Int64} {A A1 : Nat → Nat → Int32} {B B1 : Nat → Nat → Int64} {T : Nat → Option Txt} {M : Nat → Option Img}
/-- a storm's row: its cells on both sides -/
theorem st_c (h : SR X GG I A T (A1 1)) {k i : Nat} (ek : I 41 = nI k) (hk : k ≤ 20) (hi : i < k) :
    A 40 (i * 42) = A1 1 (733 + 42 * i) ∧ (∃ hr, 1 ≤ hr ∧ hr ≤ 40 ∧ A 40 (i * 42 + 1) = nI hr ∧ A1 1 (733 + 42 * i + 1) = nI hr ∧ ∀ q, q < hr → A 40 (i * 42 + (2 + q)) = A1 1 (733 + 42 * i + 2 + q)) := by
  obtain ⟨-, -, k2, hk2, ek2, hc⟩ := h.2.2.2.2.2.2.2.1 3 (by decide)
  have e : k2 = k := by
    have e3 : nI k2 = nI k := ek2.symm.trans ek
    have hk2 : k2 ≤ 20 := hk2
    have := congrArg Int32.toNatClampNeg e3
    rw [nI_clamp (by omega), nI_clamp (by omega)] at this
    exact this
  subst e
  have hc2 : ∀ j, j < k2 * 42 → us 3 (A 40) j → A 40 j = A1 1 (733 + j) ∧ GG 3 (j % 42) (A 40 j) := hc
  have c0 := hc2 (i * 42) (by omega) (fun _ => by rw [Nat.mul_mod_left]; omega)
  have c1 := hc2 (i * 42 + 1) (by omega) (fun _ => by rw [show (i * 42 + 1) % 42 = 1 by omega]; omega)
  have g1 : bt (A 40 (i * 42 + 1)) 1 40 := by
    have := c1.2
    rw [show (i * 42 + 1) % 42 = 1 by omega] at this
    exact this
  obtain ⟨hr, hh, eh⟩ := nI_of (x := A 40 (i * 42 + 1)) (by rw [i32_lt, show (0 : Int32).toInt = 0 from rfl]; omega)
  have b1 : 1 ≤ hr ∧ hr ≤ 40 := by
    rw [eh, bt, nI_toInt hh] at g1
    omega
  refine ⟨by rw [c0.1]; congr 1; omega, hr, b1.1, b1.2, eh, ?_, fun q hq => ?_⟩
  · rw [← eh, c1.1]; congr 1; omega
  · have c2 := hc2 (i * 42 + (2 + q)) (by omega) (fun _ => by
      rw [show (i * 42 + (2 + q)) % 42 = 2 + q by omega, show (i * 42 + (2 + q)) / 42 * 42 + 1 = i * 42 + 1 by omega, eh, ix_n hh]
      omega)
    rw [c2.1]; congr 1; omega
theorem cl_2 {k i hr : Nat} {x x2 x3 : Int32} (ew : I 39 = nI 42) (ek : I 41 = nI k) (hk : k ≤ 20) (hi : i < k) (hh : hr ≤ 40) (hc : ∀ q, q < hr → A 40 (i * 42 + (2 + q)) = A1 1 (733 + 42 * i + 2 + q)) :
    ∀ n h : Nat, hr < h + n → h ≤ hr → RB (lX4_hoursLeft_13 n (nI i) x (nI hr) (nI h) I J A B) (lX8_callOf_40 n x x2 x3 (nI (733 + 42 * i)) (nI hr) (nI h) I1 J1 A1 B1) (fun a b => (∃ q, q < hr ∧ a = .inl (nI q) ∧ b = nI q) ∨ (a = .inr () ∧ b = nI hr)) := by
  intro n
  induction n with
  | zero => intro h h1 h2; omega
  | succ n ih =>
    intro h h1 h2
    rw [lX4_hoursLeft_13, lX8_callOf_40]
    refine rb_if Iff.rfl (fun g _ => rb_some (Or.inr ⟨rfl, ?_⟩)) (fun g _ => ?_)
    · rw [nn_le (by omega) (by omega)] at g
      rw [show h = hr by omega]
    · rw [nn_le (by omega) (by omega)] at g
      refine rl_bind (by rw [show (2 : Int32) + nI h = nI (2 + h) from nI_add 2 h]; exact cell_7 (n := 3) (k := k) (i := i) (c := 2 + h) (by decide) ew ek hk hi (show 2 + h < 42 by omega)) ?_
      rw [show nI (733 + 42 * i) + (2 : Int32) + nI h = nI (733 + 42 * i + 2 + h) by rw [show (2 : Int32) = nI 2 from rfl, nI_add, nI_add]]
      refine rr_ck (inB_n (by omega) (by decide)) ?_
      rw [ix_n (show 733 + 42 * i + 2 + h < 2 ^ 31 by omega), ← hc h (by omega)]
      show RB (if A 40 (i * 42 + (2 + h)) < x then _ else _) _ _
      by_cases g2 : A 40 (i * 42 + (2 + h)) < x
      · refine rl_t g2 (rr_f (by rw [i32_le]; rw [i32_lt] at g2; omega) (rl_gv (rr_gv ?_)))
        rw [nI_1]
        exact ih (h + 1) (by omega) (by omega)
      · exact rl_f g2 (rr_t (by rw [i32_le]; rw [i32_lt] at g2; omega) (rb_some (Or.inl ⟨h, by omega, rfl, rfl⟩)))
theorem cos_2 (h : SR X GG I A T (A1 1)) {k : Nat} {x : Int32} (ek : I 41 = nI k) (hk : k ≤ 20) :
    ∀ (n i : Nat) (c : Int32), k < i + n → i ≤ k → RB (lX4_costAt_4 n x c (nI i) I J A B) (lX8_callOf_4 n x c (nI i) I1 J1 A1 B1) (fun a b => a = b) := by
  have ew : I 39 = nI 42 := (h.2.2.2.2.2.2.2.1 3 (by decide)).1
  have es : A1 1 1637 = nI k := (h.2.2.2.2.2.2.2.1 3 (by decide)).2.1.symm.trans ek
  have t8 := (h.2.2.2.2.2.1.1 8 (by decide)).1
  have t7 := (h.2.2.2.2.2.1.1 7 (by decide)).1
  have t6 := (h.2.2.2.2.2.1.1 6 (by decide)).1
  have m8 : sX8_term 8 I1 J1 A1 B1 = some (A1 1 164) := term_8 (k := 8) (by decide)
  have m7 : sX8_term 7 I1 J1 A1 B1 = some (A1 1 163) := term_8 (k := 7) (by decide)
  have m6 : sX8_term 6 I1 J1 A1 B1 = some (A1 1 162) := term_8 (k := 6) (by decide)
  intro n
  induction n with
  | zero => intro i c h1 h2; omega
  | succ n ih =>
    intro i c h1 h2
    rw [lX4_costAt_4, lX8_callOf_4, ek, show A1 1 (ix 1637) = nI k from es]
    refine rb_if Iff.rfl (fun _ _ => rb_some rfl) (fun g _ => ?_)
    rw [nn_le (by omega) (by omega)] at g
    obtain ⟨c0, hr, b1, b2, e1, e2, hc⟩ := st_c h ek hk (show i < k by omega)
    have hcl := cl_2 (J := J) (J1 := J1) (B := B) (B1 := B1) (I1 := I1) (x := x) (x2 := c) (x3 := nI i) ew ek hk (show i < k by omega) b2 hc FU 0 (by unfold FU; omega) (by omega)
    obtain ⟨a, b, q1, q2, q3⟩ := hcl
    have q1 : lX4_hoursLeft_13 FU (nI i) x (nI hr) 0 I J A B = some a := q1
    have q2 : lX8_callOf_40 FU x c (nI i) (nI (733 + 42 * i)) (nI hr) 0 I1 J1 A1 B1 = some b := q2
    have hcell1 : sX5_cell 3 (nI i) 1 I J A B = some (nI hr) := by rw [← e1]; exact cell_7 (n := 3) (k := k) (i := i) (c := 1) (by decide) ew ek hk (by omega) (by decide)
    have hcell0 : sX5_cell 3 (nI i) 0 I J A B = some (A1 1 (733 + 42 * i)) := by rw [← c0]; exact cell_7 (n := 3) (k := k) (i := i) (c := 0) (by decide) ew ek hk (by omega) (by decide)
    rw [show (733 : Int32) + 42 * nI i = nI (733 + 42 * i) by rw [show (42 : Int32) = nI 42 from rfl, show (733 : Int32) = nI 733 from rfl, pk_mul, nI_add]]
    refine rr_gv ?_
    rw [show nI (733 + 42 * i) + (1 : Int32) = nI (733 + 42 * i + 1) from nI_add _ _]
    refine rr_ck (inB_n (by omega) (by decide)) (rr_gv ?_)
    rw [ix_n (show 733 + 42 * i + 1 < 2 ^ 31 by omega), e2]
    refine rr_bind q2 ?_
    -- what both find left
    have hl : ∃ lf, lf ≤ hr ∧ sX4_hoursLeft (nI i) x I J A B = some (nI lf) ∧ nI hr - b = nI lf ∧ (nI hr ≤ b ↔ nI lf ≤ 0) := by
      unfold sX4_hoursLeft
      rw [hcell1]
      show ∃ lf, lf ≤ hr ∧ (Option.bind _ _ = _) ∧ _
      rcases q3 with ⟨q, hq, rfl, rfl⟩ | ⟨rfl, rfl⟩
      · refine ⟨hr - q, by omega, ?_, pk_sub (by omega), ?_⟩
        · show (lX4_hoursLeft_13 FU (nI i) x (nI hr) 0 I J A B).bind _ = _
          rw [q1]
          show some _ = _
          rw [pk_sub (by omega)]
        · rw [show (0 : Int32) = nI 0 from rfl, nn_le (by omega) (by omega), nn_le (by omega) (by decide)]; omega
      · refine ⟨0, by omega, ?_, by rw [pk_sub (by omega), Nat.sub_self], ?_⟩
        · show (lX4_hoursLeft_13 FU (nI i) x (nI hr) 0 I J A B).bind _ = _
          rw [q1]; rfl
        · rw [show (0 : Int32) = nI 0 from rfl, nn_le (by omega) (by omega), nn_le (by omega) (by decide)]; omega
    obtain ⟨lf, l1, l2, l3, l4⟩ := hl
    refine rl_bind l2 (rl_gv (rr_gv ?_))
    have hrest : ∀ v : Int32, RB ((sX5_cell 3 (nI i) 0 I J A B).bind fun r_44 => if r_44 = (1 : Int32) then (if (A 15 (ix (8 : Int32))) ≤ nI lf then (gv (nI i + 1) fun x3_73 => lX4_costAt_4 n x v x3_73 I J A B) else gv (v + (A 15 (ix (7 : Int32)))) fun x2_72 => gv (nI i + 1) fun x3_73 => lX4_costAt_4 n x x2_72 x3_73 I J A B) else gv (nI i + 1) fun x3_73 => lX4_costAt_4 n x v x3_73 I J A B)
        (ck (inB (nI (733 + 42 * i)) 8047) <| if (A1 1 (ix (nI (733 + 42 * i)))) = (1 : Int32) then ((sX8_term (8 : Int32) I1 J1 A1 B1).bind fun r_104 => if r_104 ≤ (nI hr - b) then (gv (nI i + 1) fun x3_119 => lX8_callOf_4 n x v x3_119 I1 J1 A1 B1) else (sX8_term (7 : Int32) I1 J1 A1 B1).bind fun r_114 => gv (v + r_114) fun x2_118 => gv (nI i + 1) fun x3_119 => lX8_callOf_4 n x x2_118 x3_119 I1 J1 A1 B1) else gv (nI i + 1) fun x3_119 => lX8_callOf_4 n x v x3_119 I1 J1 A1 B1) (fun a b => a = b) := by
      intro v
      refine rl_bind hcell0 (rr_ck (inB_n (by omega) (by decide)) ?_)
      rw [ix_n (show 733 + 42 * i < 2 ^ 31 by omega), nI_1]
      refine rb_if Iff.rfl (fun _ _ => rr_bind m8 ?_) (fun _ _ => rl_gv (rr_gv (ih (i + 1) v (by omega) (by omega))))
      rw [show A 15 (ix 8) = A1 1 164 from t8, l3]
      refine rb_if Iff.rfl (fun _ _ => rl_gv (rr_gv (ih (i + 1) v (by omega) (by omega)))) (fun _ _ => ?_)
      refine rr_bind m7 (rl_gv (rl_gv (rr_gv (rr_gv ?_))))
      rw [show A 15 (ix 7) = A1 1 163 from t7]
      exact ih (i + 1) _ (by omega) (by omega)
    refine rb_if l4.symm (fun _ _ => hrest c) (fun _ _ => rl_gv (rr_bind m6 (rr_gv ?_)))
    rw [show A 15 (ix 6) = A1 1 162 from t6]
    exact hrest _
theorem cost_2 (h : SR X GG I A T (A1 1)) (x : Int32) : ∃ v, sX4_costAt x I J A B = some v ∧ sX8_callOf x I1 J1 A1 B1 = some v := by
  obtain ⟨-, -, k, hk, ek, -⟩ := h.2.2.2.2.2.2.2.1 3 (by decide)
  have hk : k ≤ 20 := hk
  obtain ⟨a, b, h1, h2, rfl⟩ := cos_2 (J := J) (J1 := J1) (B := B) (B1 := B1) (I1 := I1) (x := x) h ek hk FU 0 0 (by unfold FU; omega) (by omega)
  have h1 : lX4_costAt_4 FU x 0 0 I J A B = some a := h1
  have h2 : lX8_callOf_4 FU x 0 0 I1 J1 A1 B1 = some a := h2
  exact ⟨a, by unfold sX4_costAt; rw [h1]; rfl, by unfold sX8_callOf; rw [h2]; rfl⟩
theorem ps_call : PS_call (RE X GG) := by
  intro x1 I J A B T M I1 J1 A1 B1 hr
  have hb : RB (sX7_call x1 I J A B) (sX8_call x1 I1 J1 A1 B1) (fun r r' => r = r') := by
    unfold sX7_call sX8_call
    refine rl_bind (rg_wi _ _ _) (rr_bind (rg_in _ _ _) ?_)
    refine rb_if Iff.rfl (fun _ _ => rb_some rfl) (fun _ _ => ?_)
    obtain ⟨v, h1, h2⟩ := cost_2 (J := J) (J1 := J1) (B := B) (B1 := B1) (I1 := I1) hr.1 x1
    exact rl_bind h1 (rr_bind h2 (rb_some rfl))
  obtain ⟨a, b, h1, h2, rfl⟩ := hb
  exact ⟨a, h1, h2, hr⟩
theorem wh_2 (h : SR X GG I A T (A1 1)) : ∀ (n c : Nat) (x v : Int32), 101 < c + n → c ≤ 101 → sX8_callOf x I1 J1 A1 B1 = some v → RB (lX7_when_28 n x v (nI c) I J A B) (lX8_when_17 n x (nI c) I1 J1 A1 B1) (fun a b => a = b) := by
  intro n
  induction n with
  | zero => intro c x v h1 h2; omega
  | succ n ih =>
    intro c x v h1 h2 hv
    rw [lX7_when_28, lX8_when_17]
    refine rb_if Iff.rfl (fun _ _ => rb_some rfl) (fun g _ => ?_)
    rw [show (100 : Int32) = nI 100 from rfl, nn_lt (by omega) (by omega)] at g
    obtain ⟨w, k1, k2⟩ := cost_2 (J := J) (J1 := J1) (B := B) (B1 := B1) (I1 := I1) h (nI c)
    refine rl_bind k1 (rr_bind k2 (rr_bind hv ?_))
    refine rb_if Iff.rfl (fun _ _ => rl_gv (rr_gv ?_)) (fun _ _ => rl_gv (rr_gv ?_))
    · rw [nI_1]; exact ih (c + 1) x v (by omega) (by omega) hv
    · rw [nI_1]; exact ih (c + 1) (nI c) w (by omega) (by omega) k2
theorem ps_when : PS_when (RE X GG) := by
  intro I J A B T M I1 J1 A1 B1 hr
  have hb : RB (sX7_when I J A B) (sX8_when I1 J1 A1 B1) (fun r r' => r = r') := by
    unfold sX7_when sX8_when
    have es : I 41 = A1 1 (ix 1637) := (hr.1.2.2.2.2.2.2.2.1 3 (by decide)).2.1
    rw [es]
    refine rb_if Iff.rfl (fun _ _ => rb_some rfl) (fun _ _ => ?_)
    obtain ⟨v, h1, h2⟩ := cost_2 (J := J) (J1 := J1) (B := B) (B1 := B1) (I1 := I1) hr.1 0
    refine rl_bind h1 ?_
    refine rb_bind (P := fun a b => a = b) (wh_2 hr.1 FU 1 0 v (by unfold FU; omega) (by omega) h2) (fun a b h => rb_some h)
  obtain ⟨a, b, h1, h2, rfl⟩ := hb
  exact ⟨a, h1, h2, hr⟩
end P14
