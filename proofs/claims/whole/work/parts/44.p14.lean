section P16
variable {X : Txt → Int32 → (Nat → Int32) → (Nat → Int32) → Prop} {G : Nat → Nat → Int32 → Prop} {I I1 : Nat → Int32} {J J1 : Nat → Int64} {A A1 : Nat → Nat → Int32} {B B1 : Nat → Nat → Int64} {T : Nat → Option Txt} {M : Nat → Option Img}
/-- the tape is empty on both sides -/
theorem RE_t0 (hX : XE X) (h : RE X G I J A B T M I1 J1 A1 B1) : RE X G (upd I 7 0) J A B T M (upd I1 20 0) J1 A1 B1 := by
  obtain ⟨h1, h2, h3, h4, h5, h6, h7, h8⟩ := h
  exact ⟨SR_ext hX (fun k h1 h2 => upd_n I 0 (by omega)) (fun _ _ _ _ => rfl) (fun _ _ => rfl) h1, h2, ⟨rfl, 0, by omega, rfl, fun j hj => absurd hj (by omega)⟩, h4, h5, h6, h7, h8⟩
theorem rg_41 {k : Nat} (hk : k ≤ 400) : rg (nI k - 1) 1 40 = 0 ↔ rg (nI k) 2 41 = 0 := by
  have h1 : (nI k - 1).toInt = (k : Int) - 1 := by rw [show (1 : Int32) = nI 1 from rfl, pk_sub_toInt (by omega) (by decide)]; rfl
  have h2 : (nI k).toInt = (k : Int) := nI_toInt (by omega)
  have c1 : (nI k - 1 < 1) ↔ (k : Int) < 2 := by rw [i32_lt, h1, show (1 : Int32).toInt = 1 from rfl]; omega
  have c2 : ((40 : Int32) < nI k - 1) ↔ (41 : Int) < k := by rw [i32_lt, h1, show (40 : Int32).toInt = 40 from rfl]; omega
  have c3 : (nI k < 2) ↔ (k : Int) < 2 := by rw [i32_lt, h2, show (2 : Int32).toInt = 2 from rfl]
  have c4 : ((41 : Int32) < nI k) ↔ (41 : Int) < k := by rw [i32_lt, h2, show (41 : Int32).toInt = 41 from rfl]
  unfold rg
  by_cases a : (k : Int) < 2
  · rw [if_pos (c1.mpr a), if_pos (c3.mpr a)]
  · rw [if_neg (fun q => a (c1.mp q)), if_neg (fun q => a (c3.mp q))]
    by_cases b : (41 : Int) < k
    · rw [if_pos (c2.mpr b), if_pos (c4.mpr b)]
    · rw [if_neg (fun q => b (c2.mp q)), if_neg (fun q => b (c4.mp q))]
/-- what binds the new storm's rows while hours are written -/
def rwI (k hr h : Nat) (A0 A10 A A1 : Nat → Nat → Int32) (x : Int32) : Prop :=
  (∀ a, ¬ a = 40 → A a = A0 a) ∧ (∀ j, j < k * 42 → A 40 j = A0 40 j) ∧ (∀ a, ¬ a = 1 → A1 a = A10 a) ∧ (∀ j, ¬ (733 + k * 42 ≤ j ∧ j < 733 + k * 42 + 42) → A1 1 j = A10 1 j) ∧
  (∀ c, c < 2 + h → A 40 (k * 42 + c) = A1 1 (733 + (k * 42 + c))) ∧ bt (A 40 (k * 42 + 0)) 0 1 ∧ A 40 (k * 42 + 1) = nI hr ∧ (∀ c, c < h → bt (A 40 (k * 42 + (2 + c))) 0 100) ∧
  ((h = 0 ∧ x = 0) ∨ (0 < h ∧ x = A 40 (k * 42 + (1 + h)))) ∧ bt x 0 100
theorem rw_2 {k hr : Nat} {A0 A10 : Nat → Nat → Int32} (hk : k < 20) (hh : hr ≤ 40) (ew : I 39 = nI 42) (es : I 41 = nI (k + 1)) (ht : ∀ j, j < hr + 1 → A10 18 j = (A0 6 j).toInt8.toInt32 ∧ bt (A0 6 j) 0 255) {y : Int32} :
    ∀ (n h : Nat) (A A1 : Nat → Nat → Int32) (x : Int32), hr < h + n → h ≤ hr → rwI k hr h A0 A10 A A1 x → RB (lX7_row_97 n (nI hr) x (nI h) I J A B) (lX8_row_98 n (nI (hr + 1)) y (nI (733 + 42 * k)) (nI h) I1 J1 A1 B1) (fun a b => ∃ x, rwI k hr hr A0 A10 a b x) := by
  intro n
  induction n with
  | zero => intro h A A1 x h1 h2; omega
  | succ n ih =>
    intro h A A1 x h1 h2 hi
    obtain ⟨i1, i2, i3, i4, i5, i6, i7, i8, i9, i10⟩ := hi
    rw [lX7_row_97, lX8_row_98]
    have e1 : nI (hr + 1) - (1 : Int32) = nI hr := nI_pred hr
    rw [e1]
    refine rb_if Iff.rfl (fun g _ => rb_some ⟨x, ?_⟩) (fun g _ => ?_)
    · rw [nn_le (by omega) (by omega)] at g
      have e : h = hr := by omega
      subst e
      exact ⟨i1, i2, i3, i4, i5, i6, i7, i8, i9, i10⟩
    · rw [nn_le (by omega) (by omega)] at g
      obtain ⟨t1, t2⟩ := ht (h + 1) (by omega)
      obtain ⟨b, hb, eb⟩ := nI_of (x := A0 6 (h + 1)) (by rw [i32_lt, show (0 : Int32).toInt = 0 from rfl]; omega)
      have hb2 : b < 256 := by rw [eb, bt, nI_toInt hb] at t2; omega
      have ty := ty_1 b hb2
      have ea : A 6 (h + 1) = nI b := by rw [i1 6 (by decide)]; exact eb
      have ea1 : A1 18 (h + 1) &&& 255 = nI b := by rw [i3 18 (by decide), t1, eb]; exact ty.2.2
      rw [nI_1]
      refine rl_ck (inB_n (by omega) (by decide)) (rl_gv (rr_ck (inB_n (by omega) (by decide)) (rr_gv ?_)))
      rw [ix_n (show h + 1 < 2 ^ 31 by omega), ea, ea1]
      rw [show nI (733 + 42 * k) + (2 : Int32) + nI h = nI (733 + 42 * k + 2 + h) by rw [show (2 : Int32) = nI 2 from rfl, nI_add, nI_add], show nI (733 + 42 * k) + (1 : Int32) + nI h = nI (733 + 42 * k + 1 + h) by rw [show (1 : Int32) = nI 1 from rfl, nI_add, nI_add]]
      rw [ix_n (show 733 + 42 * k + 2 + h < 2 ^ 31 by omega), ix_n (show 733 + 42 * k + 1 + h < 2 ^ 31 by omega)]
      -- one hour told on both sides
      have one : ∀ v w : Int32, v = w → bt v 0 100 → RB ((sX5_put 3 ((2 : Int32) + nI h) v I J A B).bind fun A => gv (nI (h + 1)) fun x3_142 => lX7_row_97 n (nI hr) v x3_142 I J A B) (gv (va_up A1 1 (upd (A1 1) (733 + 42 * k + 2 + h) w)) fun A => gv (nI (h + 1)) fun x4_164 => lX8_row_98 n (nI (hr + 1)) y (nI (733 + 42 * k)) x4_164 I1 J1 A B1) (fun a b => ∃ x, rwI k hr hr A0 A10 a b x) := by
        intro v w evw hv
        subst evw
        refine rl_bind (by rw [show (2 : Int32) + nI h = nI (2 + h) from nI_add 2 h]; exact put_7 (n := 3) (k := k) (c := 2 + h) (by decide) ew es hk (show 2 + h < 42 by omega)) (rl_gv (rr_gv (rr_gv ?_)))
        refine ih (h + 1) _ _ v (by omega) (by omega) ⟨fun a ha => by rw [va_up_ne _ _ ha]; exact i1 a ha, fun j hj => ?_, fun a ha => by rw [va_up_ne _ _ ha]; exact i3 a ha, fun j hj => ?_, fun c hc => ?_, ?_, ?_, fun c hc => ?_, Or.inr ⟨by omega, ?_⟩, hv⟩
        · show upd (A 40) (k * 42 + (2 + h)) v j = _
          rw [upd_n _ _ (by omega)]; exact i2 j hj
        · rw [va_up_self, upd_n _ _ (by omega)]; exact i4 j hj
        · show upd (A 40) (k * 42 + (2 + h)) v (k * 42 + c) = _
          rw [va_up_self]
          by_cases e : c = 2 + h
          · subst e; rw [upd_s, show 733 + (k * 42 + (2 + h)) = 733 + 42 * k + 2 + h by omega, upd_s]
          · rw [upd_n _ _ (by omega), upd_n _ _ (by omega)]; exact i5 c (by omega)
        · show bt (upd (A 40) (k * 42 + (2 + h)) v (k * 42 + 0)) 0 1
          rw [upd_n _ _ (by omega)]; exact i6
        · show upd (A 40) (k * 42 + (2 + h)) v (k * 42 + 1) = _
          rw [upd_n _ _ (by omega)]; exact i7
        · show bt (upd (A 40) (k * 42 + (2 + h)) v (k * 42 + (2 + c))) 0 100
          by_cases e : c = h
          · subst e; rw [upd_s]; exact hv
          · rw [upd_n _ _ (by omega)]; exact i8 c (by omega)
        · show v = upd (A 40) (k * 42 + (2 + h)) v (k * 42 + (1 + (h + 1)))
          rw [show k * 42 + (1 + (h + 1)) = k * 42 + (2 + h) by omega, upd_s]
      by_cases g2 : nI b ≤ 100
      · refine rl_t g2 (rl_ck (inB_n (by omega) (by decide)) (rr_f (by rw [i32_lt]; rw [i32_le] at g2; omega) (rr_ck (inB_n (by omega) (by decide)) ?_)))
        (try rw [nI_1])
        refine one (nI b) (nI b) rfl ?_
        rw [show (100 : Int32) = nI 100 from rfl, nn_le (by omega) (by decide)] at g2
        exact bt_n (by omega) (by omega) (by omega)
      · refine rl_f g2 (rr_t (by rw [i32_lt]; rw [i32_le] at g2; omega) ?_)
        rcases i9 with ⟨z, zx⟩ | ⟨z, zx⟩
        · subst z
          refine rr_t rfl (rr_ck (inB_n (by omega) (by decide)) ?_)
          (try rw [nI_1])
          exact one x 0 zx i10
        · refine rr_f (by rw [show (0 : Int32) = nI 0 from rfl, nI_eq (by omega) (by decide)]; omega) (rr_ck (inB_n (by omega) (by decide)) (rr_ck (inB_n (by omega) (by decide)) ?_))
          (try rw [nI_1])
          refine one x _ ?_ i10
          rw [zx, i5 (1 + h) (by omega)]; congr 1; omega
end P16
