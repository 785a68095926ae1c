/-- the ranges of the tables' columns -/
def GG (n c : Nat) (v : Int32) : Prop := if n = 0 then (if c = 0 then bt v 0 7 else if c = 1 then bt v 1 100 else bt v 1 1000000) else if n = 2 then (if c = 0 then bt v 0 7 else if c = 1 then bt v 1 20 else bt v 0 10000) else if n = 4 then (if c = 0 then bt v 1 200 else if c = 1 then bt v 0 100 else if c = 2 then bt v 0 400 else if c = 3 then bt v 0 10 else bt v 0 1) else if n = 1 then (if c = 0 then bt v 0 9999 else if c = 1 then bt v 0 47 else if c = 2 then bt v 0 1 else if c = 3 then bt v 0 7 else if c = 4 then bt v 0 7 else bt v 0 1) else (if c = 0 then bt v 0 1 else if c = 1 then bt v 1 40 else bt v 0 100)
section P6
variable {X : Txt → Int32 → (Nat → Int32) → (Nat → Int32) → Prop}
set_option maxRecDepth 10000 in
theorem ps_wind (hX : XE X) : PS_wind (RE X GG) := by
  intro x1 x2 x3 I J A B T M I1 J1 A1 B1 hr
  obtain ⟨ew, es, k, hk, ek, hc⟩ := hr.1.2.2.2.2.2.2.2.1 0 (by decide)
  have ek2 : I 32 = nI k := ek
  have e1 : A1 1 1633 = nI k := es.symm.trans ek
  have hk2 : k ≤ 16 := hk
  refine fin_2 ?_
  unfold sX7_wind sX8_wind
  refine rl_bind (wy_7 x1) (rr_bind (rg_in _ _ _) ?_)
  refine rb_if Iff.rfl (fun _ _ => rf_2 hX hr _) (fun g0 _ => ?_)
  refine rl_bind (rg_wi _ _ _) (rr_bind (rg_in _ _ _) ?_)
  refine rb_if Iff.rfl (fun _ _ => rf_2 hX hr _) (fun g1 _ => ?_)
  refine rl_bind (rg_wi _ _ _) (rr_bind (rg_in _ _ _) ?_)
  refine rb_if Iff.rfl (fun _ _ => rf_2 hX hr _) (fun g2 _ => ?_)
  refine rl_bind (full_7 (by decide) ew ek hk) (rr_gv ?_)
  rw [show A1 1 (ix 1633) = nI k from e1]
  by_cases hf : k < tN 0
  · have hf2 : k < 16 := hf
    rw [if_pos hf]
    refine rl_t rfl (rr_f (by rw [show (16 : Int32) = nI 16 from rfl, nI_eq (by omega) (by decide)]; omega) ?_)
    refine rl_bind (open_7 (by decide) ew ek hf) ?_
    refine rl_bind (put_7 (n := 0) (k := k) (c := 0) (by decide) ((upd_n _ _ (by decide)).trans ew) (upd_s _ _ _) hf (by decide)) ?_
    refine rl_bind (put_7 (n := 0) (k := k) (c := 1) (by decide) ((upd_n _ _ (by decide)).trans ew) (upd_s _ _ _) hf (by decide)) ?_
    refine rl_bind (put_7 (n := 0) (k := k) (c := 2) (by decide) ((upd_n _ _ (by decide)).trans ew) (upd_s _ _ _) hf (by decide)) ?_
    rw [show (165 : Int32) + 3 * nI k = nI (165 + 3 * k) by rw [show (3 : Int32) = nI 3 from rfl, show (165 : Int32) = nI 165 from rfl, pk_mul, nI_add]]
    refine rr_ck (inB_n (by omega) (by decide)) (rr_gv ?_)
    rw [show nI (165 + 3 * k) + (1 : Int32) = nI (165 + 3 * k + 1) from nI_add _ _]
    refine rr_ck (inB_n (by omega) (by decide)) (rr_gv ?_)
    rw [show nI (165 + 3 * k) + (2 : Int32) = nI (165 + 3 * k + 2) from nI_add _ _]
    refine rr_ck (inB_n (by omega) (by decide)) (rr_gv ?_)
    refine rr_gv ?_
    rw [ix_n (show 165 + 3 * k < 2 ^ 31 by omega)]
    rw [ix_n (show 165 + 3 * k + 1 < 2 ^ 31 by omega)]
    rw [ix_n (show 165 + 3 * k + 2 < 2 ^ 31 by omega)]
    refine ac_2 hX (RE_set hr (fun j hj => upd_n _ _ (by omega)) (fun a ha => ?_) (fun a ha => ?_) ?_) ?_
    · rw [va_up_ne _ _ (by omega), va_up_ne _ _ (by omega), va_up_ne _ _ (by omega)]
    · rw [va_up_ne _ _ ha, va_up_ne _ _ ha, va_up_ne _ _ ha, va_up_ne _ _ ha]
    · refine SR_tab (n := 0) (k := k) hX hr.1 (by decide) hf ek (fun c => if c = 0 then x1 else if c = 1 then x2 else x3) (fun c hc _ => ?_) (fun a ha => ?_) (fun j hj => ?_) (fun c hc _ => ?_) (fun j hj1 hj2 => ?_) (fun c hc _ => ?_) ?_
      · match c, hc with
        | 0, _ => obtain ⟨u1, u2⟩ := rg_1 g0; exact bt_of u1 u2
        | 1, _ => obtain ⟨u1, u2⟩ := rg_1 g1; exact bt_of u1 u2
        | 2, _ => obtain ⟨u1, u2⟩ := rg_1 g2; exact bt_of u1 u2
        | c + 3, hc => exact absurd hc (by show ¬ c + 3 < 3; omega)
      · rw [va_up_ne _ _ ha, va_up_ne _ _ ha, va_up_ne _ _ ha]
      · have hj : j < k * 3 := hj
        show (upd (upd (upd (A 31) (k * 3 + 0) x1) (k * 3 + 1) x2) (k * 3 + 2) x3) j = A 31 j
        rw [upd_n _ _ (by omega), upd_n _ _ (by omega), upd_n _ _ (by omega)]
      · match c, hc with
        | 0, _ => show (upd (upd (upd (A 31) (k * 3 + 0) x1) (k * 3 + 1) x2) (k * 3 + 2) x3) (k * 3 + 0) = x1; rw [upd_n _ _ (by omega), upd_n _ _ (by omega), upd_s]
        | 1, _ => show (upd (upd (upd (A 31) (k * 3 + 0) x1) (k * 3 + 1) x2) (k * 3 + 2) x3) (k * 3 + 1) = x2; rw [upd_n _ _ (by omega), upd_s]
        | 2, _ => show (upd (upd (upd (A 31) (k * 3 + 0) x1) (k * 3 + 1) x2) (k * 3 + 2) x3) (k * 3 + 2) = x3; rw [upd_s]
        | c + 3, hc => exact absurd hc (by show ¬ c + 3 < 3; omega)
      · have hj1 : ¬ (165 + k * 3 ≤ j ∧ j < 165 + k * 3 + 3) := hj1
        have hj2 : ¬ j = 1633 := hj2
        show (upd (upd (upd (upd (A1 1) (165 + 3 * k) x1) (165 + 3 * k + 1) x2) (165 + 3 * k + 2) x3) 1633 ((upd (upd (upd (A1 1) (165 + 3 * k) x1) (165 + 3 * k + 1) x2) (165 + 3 * k + 2) x3) 1633 + 1)) j = A1 1 j
        rw [upd_n _ _ hj2, upd_n _ _ (by omega), upd_n _ _ (by omega), upd_n _ _ (by omega)]
      · match c, hc with
        | 0, _ => show (upd (upd (upd (upd (A1 1) (165 + 3 * k) x1) (165 + 3 * k + 1) x2) (165 + 3 * k + 2) x3) 1633 ((upd (upd (upd (A1 1) (165 + 3 * k) x1) (165 + 3 * k + 1) x2) (165 + 3 * k + 2) x3) 1633 + 1)) (165 + (k * 3 + 0)) = x1; rw [upd_n _ _ (by omega), show 165 + (k * 3 + 0) = 165 + 3 * k by omega, upd_n _ _ (by omega), upd_n _ _ (by omega), upd_s]
        | 1, _ => show (upd (upd (upd (upd (A1 1) (165 + 3 * k) x1) (165 + 3 * k + 1) x2) (165 + 3 * k + 2) x3) 1633 ((upd (upd (upd (A1 1) (165 + 3 * k) x1) (165 + 3 * k + 1) x2) (165 + 3 * k + 2) x3) 1633 + 1)) (165 + (k * 3 + 1)) = x2; rw [upd_n _ _ (by omega), show 165 + (k * 3 + 1) = 165 + 3 * k + 1 by omega, upd_n _ _ (by omega), upd_s]
        | 2, _ => show (upd (upd (upd (upd (A1 1) (165 + 3 * k) x1) (165 + 3 * k + 1) x2) (165 + 3 * k + 2) x3) 1633 ((upd (upd (upd (A1 1) (165 + 3 * k) x1) (165 + 3 * k + 1) x2) (165 + 3 * k + 2) x3) 1633 + 1)) (165 + (k * 3 + 2)) = x3; rw [upd_n _ _ (by omega), show 165 + (k * 3 + 2) = 165 + 3 * k + 2 by omega, upd_s]
        | c + 3, hc => exact absurd hc (by show ¬ c + 3 < 3; omega)
      · show (upd (upd (upd (upd (A1 1) (165 + 3 * k) x1) (165 + 3 * k + 1) x2) (165 + 3 * k + 2) x3) 1633 ((upd (upd (upd (A1 1) (165 + 3 * k) x1) (165 + 3 * k + 1) x2) (165 + 3 * k + 2) x3) 1633 + 1)) 1633 = nI (k + 1)
        rw [upd_s, upd_n _ _ (by omega), upd_n _ _ (by omega), upd_n _ _ (by omega), e1, nI_1]
    · show (upd I (32 + 3 * 0) (nI (k + 1))) 32 - 1 = nI k
      rw [show (32 : Nat) = 32 + 3 * 0 from rfl, upd_s, show (1 : Int32) = nI 1 from rfl, pk_sub (by omega), Nat.add_sub_cancel]
  · have hf2 : k = 16 := by have : ¬ k < 16 := hf; omega
    rw [if_neg hf]
    refine rl_f (by decide) (rr_t (by rw [hf2]; rfl) ?_)
    exact rf_2 hX hr _
set_option maxRecDepth 10000 in
theorem ps_street (hX : XE X) : PS_street (RE X GG) := by
  intro x1 x2 x3 I J A B T M I1 J1 A1 B1 hr
  obtain ⟨ew, es, k, hk, ek, hc⟩ := hr.1.2.2.2.2.2.2.2.1 2 (by decide)
  have ek2 : I 38 = nI k := ek
  have e1 : A1 1 1636 = nI k := es.symm.trans ek
  have hk2 : k ≤ 32 := hk
  refine fin_2 ?_
  unfold sX7_street sX8_street
  refine rl_bind (wy_7 x1) (rr_bind (rg_in _ _ _) ?_)
  refine rb_if Iff.rfl (fun _ _ => rf_2 hX hr _) (fun g0 _ => ?_)
  refine rl_bind (rg_wi _ _ _) (rr_bind (rg_in _ _ _) ?_)
  refine rb_if Iff.rfl (fun _ _ => rf_2 hX hr _) (fun g1 _ => ?_)
  refine rl_bind (rg_wi _ _ _) (rr_bind (rg_in _ _ _) ?_)
  refine rb_if Iff.rfl (fun _ _ => rf_2 hX hr _) (fun g2 _ => ?_)
  refine rl_bind (full_7 (by decide) ew ek hk) (rr_gv ?_)
  rw [show A1 1 (ix 1636) = nI k from e1]
  by_cases hf : k < tN 2
  · have hf2 : k < 32 := hf
    rw [if_pos hf]
    refine rl_t rfl (rr_f (by rw [show (32 : Int32) = nI 32 from rfl, nI_eq (by omega) (by decide)]; omega) ?_)
    refine rl_bind (open_7 (by decide) ew ek hf) ?_
    refine rl_bind (put_7 (n := 2) (k := k) (c := 0) (by decide) ((upd_n _ _ (by decide)).trans ew) (upd_s _ _ _) hf (by decide)) ?_
    refine rl_bind (put_7 (n := 2) (k := k) (c := 1) (by decide) ((upd_n _ _ (by decide)).trans ew) (upd_s _ _ _) hf (by decide)) ?_
    refine rl_bind (put_7 (n := 2) (k := k) (c := 2) (by decide) ((upd_n _ _ (by decide)).trans ew) (upd_s _ _ _) hf (by decide)) ?_
    rw [show (637 : Int32) + 3 * nI k = nI (637 + 3 * k) by rw [show (3 : Int32) = nI 3 from rfl, show (637 : Int32) = nI 637 from rfl, pk_mul, nI_add]]
    refine rr_ck (inB_n (by omega) (by decide)) (rr_gv ?_)
    rw [show nI (637 + 3 * k) + (1 : Int32) = nI (637 + 3 * k + 1) from nI_add _ _]
    refine rr_ck (inB_n (by omega) (by decide)) (rr_gv ?_)
    rw [show nI (637 + 3 * k) + (2 : Int32) = nI (637 + 3 * k + 2) from nI_add _ _]
    refine rr_ck (inB_n (by omega) (by decide)) (rr_gv ?_)
    refine rr_gv ?_
    rw [ix_n (show 637 + 3 * k < 2 ^ 31 by omega)]
    rw [ix_n (show 637 + 3 * k + 1 < 2 ^ 31 by omega)]
    rw [ix_n (show 637 + 3 * k + 2 < 2 ^ 31 by omega)]
    refine ac_2 hX (RE_set hr (fun j hj => upd_n _ _ (by omega)) (fun a ha => ?_) (fun a ha => ?_) ?_) ?_
    · rw [va_up_ne _ _ (by omega), va_up_ne _ _ (by omega), va_up_ne _ _ (by omega)]
    · rw [va_up_ne _ _ ha, va_up_ne _ _ ha, va_up_ne _ _ ha, va_up_ne _ _ ha]
    · refine SR_tab (n := 2) (k := k) hX hr.1 (by decide) hf ek (fun c => if c = 0 then x1 else if c = 1 then x2 else x3) (fun c hc _ => ?_) (fun a ha => ?_) (fun j hj => ?_) (fun c hc _ => ?_) (fun j hj1 hj2 => ?_) (fun c hc _ => ?_) ?_
      · match c, hc with
        | 0, _ => obtain ⟨u1, u2⟩ := rg_1 g0; exact bt_of u1 u2
        | 1, _ => obtain ⟨u1, u2⟩ := rg_1 g1; exact bt_of u1 u2
        | 2, _ => obtain ⟨u1, u2⟩ := rg_1 g2; exact bt_of u1 u2
        | c + 3, hc => exact absurd hc (by show ¬ c + 3 < 3; omega)
      · rw [va_up_ne _ _ ha, va_up_ne _ _ ha, va_up_ne _ _ ha]
      · have hj : j < k * 3 := hj
        show (upd (upd (upd (A 37) (k * 3 + 0) x1) (k * 3 + 1) x2) (k * 3 + 2) x3) j = A 37 j
        rw [upd_n _ _ (by omega), upd_n _ _ (by omega), upd_n _ _ (by omega)]
      · match c, hc with
        | 0, _ => show (upd (upd (upd (A 37) (k * 3 + 0) x1) (k * 3 + 1) x2) (k * 3 + 2) x3) (k * 3 + 0) = x1; rw [upd_n _ _ (by omega), upd_n _ _ (by omega), upd_s]
        | 1, _ => show (upd (upd (upd (A 37) (k * 3 + 0) x1) (k * 3 + 1) x2) (k * 3 + 2) x3) (k * 3 + 1) = x2; rw [upd_n _ _ (by omega), upd_s]
        | 2, _ => show (upd (upd (upd (A 37) (k * 3 + 0) x1) (k * 3 + 1) x2) (k * 3 + 2) x3) (k * 3 + 2) = x3; rw [upd_s]
        | c + 3, hc => exact absurd hc (by show ¬ c + 3 < 3; omega)
      · have hj1 : ¬ (637 + k * 3 ≤ j ∧ j < 637 + k * 3 + 3) := hj1
        have hj2 : ¬ j = 1636 := hj2
        show (upd (upd (upd (upd (A1 1) (637 + 3 * k) x1) (637 + 3 * k + 1) x2) (637 + 3 * k + 2) x3) 1636 ((upd (upd (upd (A1 1) (637 + 3 * k) x1) (637 + 3 * k + 1) x2) (637 + 3 * k + 2) x3) 1636 + 1)) j = A1 1 j
        rw [upd_n _ _ hj2, upd_n _ _ (by omega), upd_n _ _ (by omega), upd_n _ _ (by omega)]
      · match c, hc with
        | 0, _ => show (upd (upd (upd (upd (A1 1) (637 + 3 * k) x1) (637 + 3 * k + 1) x2) (637 + 3 * k + 2) x3) 1636 ((upd (upd (upd (A1 1) (637 + 3 * k) x1) (637 + 3 * k + 1) x2) (637 + 3 * k + 2) x3) 1636 + 1)) (637 + (k * 3 + 0)) = x1; rw [upd_n _ _ (by omega), show 637 + (k * 3 + 0) = 637 + 3 * k by omega, upd_n _ _ (by omega), upd_n _ _ (by omega), upd_s]
        | 1, _ => show (upd (upd (upd (upd (A1 1) (637 + 3 * k) x1) (637 + 3 * k + 1) x2) (637 + 3 * k + 2) x3) 1636 ((upd (upd (upd (A1 1) (637 + 3 * k) x1) (637 + 3 * k + 1) x2) (637 + 3 * k + 2) x3) 1636 + 1)) (637 + (k * 3 + 1)) = x2; rw [upd_n _ _ (by omega), show 637 + (k * 3 + 1) = 637 + 3 * k + 1 by omega, upd_n _ _ (by omega), upd_s]
        | 2, _ => show (upd (upd (upd (upd (A1 1) (637 + 3 * k) x1) (637 + 3 * k + 1) x2) (637 + 3 * k + 2) x3) 1636 ((upd (upd (upd (A1 1) (637 + 3 * k) x1) (637 + 3 * k + 1) x2) (637 + 3 * k + 2) x3) 1636 + 1)) (637 + (k * 3 + 2)) = x3; rw [upd_n _ _ (by omega), show 637 + (k * 3 + 2) = 637 + 3 * k + 2 by omega, upd_s]
        | c + 3, hc => exact absurd hc (by show ¬ c + 3 < 3; omega)
      · show (upd (upd (upd (upd (A1 1) (637 + 3 * k) x1) (637 + 3 * k + 1) x2) (637 + 3 * k + 2) x3) 1636 ((upd (upd (upd (A1 1) (637 + 3 * k) x1) (637 + 3 * k + 1) x2) (637 + 3 * k + 2) x3) 1636 + 1)) 1636 = nI (k + 1)
        rw [upd_s, upd_n _ _ (by omega), upd_n _ _ (by omega), upd_n _ _ (by omega), e1, nI_1]
    · show (upd I (32 + 3 * 2) (nI (k + 1))) 38 - 1 = nI k
      rw [show (38 : Nat) = 32 + 3 * 2 from rfl, upd_s, show (1 : Int32) = nI 1 from rfl, pk_sub (by omega), Nat.add_sub_cancel]
  · have hf2 : k = 32 := by have : ¬ k < 32 := hf; omega
    rw [if_neg hf]
    refine rl_f (by decide) (rr_t (by rw [hf2]; rfl) ?_)
    exact rf_2 hX hr _
set_option maxRecDepth 10000 in
theorem ps_tower (hX : XE X) : PS_tower (RE X GG) := by
  intro x1 x2 x3 x4 x5 I J A B T M I1 J1 A1 B1 hr
  obtain ⟨ew, es, k, hk, ek, hc⟩ := hr.1.2.2.2.2.2.2.2.1 4 (by decide)
  have ek2 : I 44 = nI k := ek
  have e1 : A1 1 1638 = nI k := es.symm.trans ek
  have hk2 : k ≤ 12 := hk
  refine fin_2 ?_
  unfold sX7_tower sX8_tower
  refine rl_bind (rg_wi _ _ _) (rr_bind (rg_in _ _ _) ?_)
  refine rb_if Iff.rfl (fun _ _ => rf_2 hX hr _) (fun g0 _ => ?_)
  refine rl_bind (rg_wi _ _ _) (rr_bind (rg_in _ _ _) ?_)
  refine rb_if Iff.rfl (fun _ _ => rf_2 hX hr _) (fun g1 _ => ?_)
  refine rl_bind (rg_wi _ _ _) (rr_bind (rg_in _ _ _) ?_)
  refine rb_if Iff.rfl (fun _ _ => rf_2 hX hr _) (fun g2 _ => ?_)
  refine rl_bind (rg_wi _ _ _) (rr_bind (rg_in _ _ _) ?_)
  refine rb_if Iff.rfl (fun _ _ => rf_2 hX hr _) (fun g3 _ => ?_)
  refine rl_bind (rg_wi _ _ _) (rr_bind (rg_in _ _ _) ?_)
  refine rb_if Iff.rfl (fun _ _ => rf_2 hX hr _) (fun g4 _ => ?_)
  refine rl_bind (full_7 (by decide) ew ek hk) (rr_gv ?_)
  rw [show A1 1 (ix 1638) = nI k from e1]
  by_cases hf : k < tN 4
  · have hf2 : k < 12 := hf
    rw [if_pos hf]
    refine rl_t rfl (rr_f (by rw [show (12 : Int32) = nI 12 from rfl, nI_eq (by omega) (by decide)]; omega) ?_)
    refine rl_bind (open_7 (by decide) ew ek hf) ?_
    refine rl_bind (put_7 (n := 4) (k := k) (c := 0) (by decide) ((upd_n _ _ (by decide)).trans ew) (upd_s _ _ _) hf (by decide)) ?_
    refine rl_bind (put_7 (n := 4) (k := k) (c := 1) (by decide) ((upd_n _ _ (by decide)).trans ew) (upd_s _ _ _) hf (by decide)) ?_
    refine rl_bind (put_7 (n := 4) (k := k) (c := 2) (by decide) ((upd_n _ _ (by decide)).trans ew) (upd_s _ _ _) hf (by decide)) ?_
    refine rl_bind (put_7 (n := 4) (k := k) (c := 3) (by decide) ((upd_n _ _ (by decide)).trans ew) (upd_s _ _ _) hf (by decide)) ?_
    refine rl_bind (put_7 (n := 4) (k := k) (c := 4) (by decide) ((upd_n _ _ (by decide)).trans ew) (upd_s _ _ _) hf (by decide)) ?_
    refine rr_gv ?_
    rw [show (1573 : Int32) + 5 * nI k = nI (1573 + 5 * k) by rw [show (5 : Int32) = nI 5 from rfl, show (1573 : Int32) = nI 1573 from rfl, pk_mul, nI_add]]
    refine rr_ck (inB_n (by omega) (by decide)) (rr_gv ?_)
    rw [show nI (1573 + 5 * k) + (1 : Int32) = nI (1573 + 5 * k + 1) from nI_add _ _]
    refine rr_ck (inB_n (by omega) (by decide)) (rr_gv ?_)
    rw [show nI (1573 + 5 * k) + (2 : Int32) = nI (1573 + 5 * k + 2) from nI_add _ _]
    refine rr_ck (inB_n (by omega) (by decide)) (rr_gv ?_)
    rw [show nI (1573 + 5 * k) + (3 : Int32) = nI (1573 + 5 * k + 3) from nI_add _ _]
    refine rr_ck (inB_n (by omega) (by decide)) (rr_gv ?_)
    rw [show nI (1573 + 5 * k) + (4 : Int32) = nI (1573 + 5 * k + 4) from nI_add _ _]
    refine rr_ck (inB_n (by omega) (by decide)) (rr_gv ?_)
    refine rr_gv ?_
    rw [ix_n (show 1573 + 5 * k < 2 ^ 31 by omega)]
    rw [ix_n (show 1573 + 5 * k + 1 < 2 ^ 31 by omega)]
    rw [ix_n (show 1573 + 5 * k + 2 < 2 ^ 31 by omega)]
    rw [ix_n (show 1573 + 5 * k + 3 < 2 ^ 31 by omega)]
    rw [ix_n (show 1573 + 5 * k + 4 < 2 ^ 31 by omega)]
    refine ac_2 hX (RE_set hr (fun j hj => upd_n _ _ (by omega)) (fun a ha => ?_) (fun a ha => ?_) ?_) ?_
    · rw [va_up_ne _ _ (by omega), va_up_ne _ _ (by omega), va_up_ne _ _ (by omega), va_up_ne _ _ (by omega), va_up_ne _ _ (by omega)]
    · rw [va_up_ne _ _ ha, va_up_ne _ _ ha, va_up_ne _ _ ha, va_up_ne _ _ ha, va_up_ne _ _ ha, va_up_ne _ _ ha]
    · refine SR_tab (n := 4) (k := k) hX hr.1 (by decide) hf ek (fun c => if c = 0 then x1 else if c = 1 then x2 else if c = 2 then x3 else if c = 3 then x4 else x5) (fun c hc _ => ?_) (fun a ha => ?_) (fun j hj => ?_) (fun c hc _ => ?_) (fun j hj1 hj2 => ?_) (fun c hc _ => ?_) ?_
      · match c, hc with
        | 0, _ => obtain ⟨u1, u2⟩ := rg_1 g0; exact bt_of u1 u2
        | 1, _ => obtain ⟨u1, u2⟩ := rg_1 g1; exact bt_of u1 u2
        | 2, _ => obtain ⟨u1, u2⟩ := rg_1 g2; exact bt_of u1 u2
        | 3, _ => obtain ⟨u1, u2⟩ := rg_1 g3; exact bt_of u1 u2
        | 4, _ => obtain ⟨u1, u2⟩ := rg_1 g4; exact bt_of u1 u2
        | c + 5, hc => exact absurd hc (by show ¬ c + 5 < 5; omega)
      · rw [va_up_ne _ _ ha, va_up_ne _ _ ha, va_up_ne _ _ ha, va_up_ne _ _ ha, va_up_ne _ _ ha]
      · have hj : j < k * 5 := hj
        show (upd (upd (upd (upd (upd (A 43) (k * 5 + 0) x1) (k * 5 + 1) x2) (k * 5 + 2) x3) (k * 5 + 3) x4) (k * 5 + 4) x5) j = A 43 j
        rw [upd_n _ _ (by omega), upd_n _ _ (by omega), upd_n _ _ (by omega), upd_n _ _ (by omega), upd_n _ _ (by omega)]
      · match c, hc with
        | 0, _ => show (upd (upd (upd (upd (upd (A 43) (k * 5 + 0) x1) (k * 5 + 1) x2) (k * 5 + 2) x3) (k * 5 + 3) x4) (k * 5 + 4) x5) (k * 5 + 0) = x1; rw [upd_n _ _ (by omega), upd_n _ _ (by omega), upd_n _ _ (by omega), upd_n _ _ (by omega), upd_s]
        | 1, _ => show (upd (upd (upd (upd (upd (A 43) (k * 5 + 0) x1) (k * 5 + 1) x2) (k * 5 + 2) x3) (k * 5 + 3) x4) (k * 5 + 4) x5) (k * 5 + 1) = x2; rw [upd_n _ _ (by omega), upd_n _ _ (by omega), upd_n _ _ (by omega), upd_s]
        | 2, _ => show (upd (upd (upd (upd (upd (A 43) (k * 5 + 0) x1) (k * 5 + 1) x2) (k * 5 + 2) x3) (k * 5 + 3) x4) (k * 5 + 4) x5) (k * 5 + 2) = x3; rw [upd_n _ _ (by omega), upd_n _ _ (by omega), upd_s]
        | 3, _ => show (upd (upd (upd (upd (upd (A 43) (k * 5 + 0) x1) (k * 5 + 1) x2) (k * 5 + 2) x3) (k * 5 + 3) x4) (k * 5 + 4) x5) (k * 5 + 3) = x4; rw [upd_n _ _ (by omega), upd_s]
        | 4, _ => show (upd (upd (upd (upd (upd (A 43) (k * 5 + 0) x1) (k * 5 + 1) x2) (k * 5 + 2) x3) (k * 5 + 3) x4) (k * 5 + 4) x5) (k * 5 + 4) = x5; rw [upd_s]
        | c + 5, hc => exact absurd hc (by show ¬ c + 5 < 5; omega)
      · have hj1 : ¬ (1573 + k * 5 ≤ j ∧ j < 1573 + k * 5 + 5) := hj1
        have hj2 : ¬ j = 1638 := hj2
        show (upd (upd (upd (upd (upd (upd (A1 1) (1573 + 5 * k) x1) (1573 + 5 * k + 1) x2) (1573 + 5 * k + 2) x3) (1573 + 5 * k + 3) x4) (1573 + 5 * k + 4) x5) 1638 ((upd (upd (upd (upd (upd (A1 1) (1573 + 5 * k) x1) (1573 + 5 * k + 1) x2) (1573 + 5 * k + 2) x3) (1573 + 5 * k + 3) x4) (1573 + 5 * k + 4) x5) 1638 + 1)) j = A1 1 j
        rw [upd_n _ _ hj2, upd_n _ _ (by omega), upd_n _ _ (by omega), upd_n _ _ (by omega), upd_n _ _ (by omega), upd_n _ _ (by omega)]
      · match c, hc with
        | 0, _ => show (upd (upd (upd (upd (upd (upd (A1 1) (1573 + 5 * k) x1) (1573 + 5 * k + 1) x2) (1573 + 5 * k + 2) x3) (1573 + 5 * k + 3) x4) (1573 + 5 * k + 4) x5) 1638 ((upd (upd (upd (upd (upd (A1 1) (1573 + 5 * k) x1) (1573 + 5 * k + 1) x2) (1573 + 5 * k + 2) x3) (1573 + 5 * k + 3) x4) (1573 + 5 * k + 4) x5) 1638 + 1)) (1573 + (k * 5 + 0)) = x1; rw [upd_n _ _ (by omega), show 1573 + (k * 5 + 0) = 1573 + 5 * k by omega, upd_n _ _ (by omega), upd_n _ _ (by omega), upd_n _ _ (by omega), upd_n _ _ (by omega), upd_s]
        | 1, _ => show (upd (upd (upd (upd (upd (upd (A1 1) (1573 + 5 * k) x1) (1573 + 5 * k + 1) x2) (1573 + 5 * k + 2) x3) (1573 + 5 * k + 3) x4) (1573 + 5 * k + 4) x5) 1638 ((upd (upd (upd (upd (upd (A1 1) (1573 + 5 * k) x1) (1573 + 5 * k + 1) x2) (1573 + 5 * k + 2) x3) (1573 + 5 * k + 3) x4) (1573 + 5 * k + 4) x5) 1638 + 1)) (1573 + (k * 5 + 1)) = x2; rw [upd_n _ _ (by omega), show 1573 + (k * 5 + 1) = 1573 + 5 * k + 1 by omega, upd_n _ _ (by omega), upd_n _ _ (by omega), upd_n _ _ (by omega), upd_s]
        | 2, _ => show (upd (upd (upd (upd (upd (upd (A1 1) (1573 + 5 * k) x1) (1573 + 5 * k + 1) x2) (1573 + 5 * k + 2) x3) (1573 + 5 * k + 3) x4) (1573 + 5 * k + 4) x5) 1638 ((upd (upd (upd (upd (upd (A1 1) (1573 + 5 * k) x1) (1573 + 5 * k + 1) x2) (1573 + 5 * k + 2) x3) (1573 + 5 * k + 3) x4) (1573 + 5 * k + 4) x5) 1638 + 1)) (1573 + (k * 5 + 2)) = x3; rw [upd_n _ _ (by omega), show 1573 + (k * 5 + 2) = 1573 + 5 * k + 2 by omega, upd_n _ _ (by omega), upd_n _ _ (by omega), upd_s]
        | 3, _ => show (upd (upd (upd (upd (upd (upd (A1 1) (1573 + 5 * k) x1) (1573 + 5 * k + 1) x2) (1573 + 5 * k + 2) x3) (1573 + 5 * k + 3) x4) (1573 + 5 * k + 4) x5) 1638 ((upd (upd (upd (upd (upd (A1 1) (1573 + 5 * k) x1) (1573 + 5 * k + 1) x2) (1573 + 5 * k + 2) x3) (1573 + 5 * k + 3) x4) (1573 + 5 * k + 4) x5) 1638 + 1)) (1573 + (k * 5 + 3)) = x4; rw [upd_n _ _ (by omega), show 1573 + (k * 5 + 3) = 1573 + 5 * k + 3 by omega, upd_n _ _ (by omega), upd_s]
        | 4, _ => show (upd (upd (upd (upd (upd (upd (A1 1) (1573 + 5 * k) x1) (1573 + 5 * k + 1) x2) (1573 + 5 * k + 2) x3) (1573 + 5 * k + 3) x4) (1573 + 5 * k + 4) x5) 1638 ((upd (upd (upd (upd (upd (A1 1) (1573 + 5 * k) x1) (1573 + 5 * k + 1) x2) (1573 + 5 * k + 2) x3) (1573 + 5 * k + 3) x4) (1573 + 5 * k + 4) x5) 1638 + 1)) (1573 + (k * 5 + 4)) = x5; rw [upd_n _ _ (by omega), show 1573 + (k * 5 + 4) = 1573 + 5 * k + 4 by omega, upd_s]
        | c + 5, hc => exact absurd hc (by show ¬ c + 5 < 5; omega)
      · show (upd (upd (upd (upd (upd (upd (A1 1) (1573 + 5 * k) x1) (1573 + 5 * k + 1) x2) (1573 + 5 * k + 2) x3) (1573 + 5 * k + 3) x4) (1573 + 5 * k + 4) x5) 1638 ((upd (upd (upd (upd (upd (A1 1) (1573 + 5 * k) x1) (1573 + 5 * k + 1) x2) (1573 + 5 * k + 2) x3) (1573 + 5 * k + 3) x4) (1573 + 5 * k + 4) x5) 1638 + 1)) 1638 = nI (k + 1)
        rw [upd_s, upd_n _ _ (by omega), upd_n _ _ (by omega), upd_n _ _ (by omega), upd_n _ _ (by omega), upd_n _ _ (by omega), e1, nI_1]
    · show (upd I (32 + 3 * 4) (nI (k + 1))) 44 - 1 = nI k
      rw [show (44 : Nat) = 32 + 3 * 4 from rfl, upd_s, show (1 : Int32) = nI 1 from rfl, pk_sub (by omega), Nat.add_sub_cancel]
  · have hf2 : k = 12 := by have : ¬ k < 12 := hf; omega
    rw [if_neg hf]
    refine rl_f (by decide) (rr_t (by rw [hf2]; rfl) ?_)
    exact rf_2 hX hr _
end P6
