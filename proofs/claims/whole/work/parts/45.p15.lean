section P17
variable {X : Txt → Int32 → (Nat → Int32) → (Nat → Int32) → Prop} {I I1 : Nat → Int32} {J J1 : Nat → Int64} {A A1 : Nat → Nat → Int32} {B B1 : Nat → Nat → Int64} {T : Nat → Option Txt} {M : Nat → Option Img}
theorem ps_row (hX : XE X) : PS_row (RE X GG) := by
  intro I J A B T M I1 J1 A1 B1 hr
  have hr0 := RE_t0 hX hr
  obtain ⟨ew, es, k, hk, ek, hc⟩ := hr.1.2.2.2.2.2.2.2.1 3 (by decide)
  have ew : I 39 = nI 42 := ew
  have ek : I 41 = nI k := ek
  have e1 : A1 1 1637 = nI k := es.symm.trans ek
  have hk2 : k ≤ 20 := hk
  obtain ⟨e7, t, ht, et, hct⟩ := hr.2.2.1
  have e20 : I1 20 = nI t := e7.symm.trans et
  refine fin_2 ?_
  unfold sX7_row sX8_row
  refine rl_bind (show sX7_takeTape I J A B = some (nI t, upd I 7 0) by unfold sX7_takeTape; rw [et]; rfl) ?_
  refine rl_gv (rr_gv (rr_gv (rr_gv ?_)))
  have ew' : upd I 7 0 39 = nI 42 := (upd_n _ _ (by decide)).trans ew
  have ek' : upd I 7 0 41 = nI k := (upd_n _ _ (by decide)).trans ek
  refine rl_bind (full_7 (n := 3) (k := k) (by decide) ew' ek' hk) ?_
  rw [show A1 1 (ix 1637) = nI k from e1, e20]
  by_cases hf : k < tN 3
  · have hf2 : k < 20 := hf
    rw [if_pos hf]
    refine rl_t rfl (rr_f (by rw [show (20 : Int32) = nI 20 from rfl, nI_eq (by omega) (by decide)]; omega) ?_)
    refine rl_bind (rg_wi _ _ _) (rr_bind (rg_in _ _ _) ?_)
    refine rb_if (rg_41 ht) (fun _ _ => rf_2 hX hr0 _) (fun _ g => ?_)
    obtain ⟨u1, u2⟩ := rg_1 g
    rw [show (2 : Int32) = nI 2 from rfl, nn_lt (by omega) (by decide)] at u1
    rw [show (41 : Int32) = nI 41 from rfl, nn_le (by omega) (by decide)] at u2
    obtain ⟨hh, rfl⟩ : ∃ m, t = m + 1 := ⟨t - 1, by omega⟩
    rw [show nI (hh + 1) - (1 : Int32) = nI hh from nI_pred hh]
    refine rr_bind (rg_in _ _ _) ?_
    obtain ⟨t1, t2⟩ := hct 0 (by omega)
    obtain ⟨b, hb, eb⟩ := nI_of (x := A 6 0) (by rw [i32_lt, show (0 : Int32).toInt = 0 from rfl]; omega)
    have hb2 : b < 256 := by rw [eb, bt, nI_toInt hb] at t2; omega
    have ty := ty_1 b hb2
    rw [show A1 18 (ix 0) = (nI b).toInt8.toInt32 from by rw [← eb]; exact t1, show A 6 (ix 0) = nI b from eb]
    by_cases g2 : nI b ≤ 1
    · refine rl_t g2 (rr_f (ty.1.mp g2) ?_)
      rw [ty.2.1 g2]
      have hb1 : b ≤ 1 := by rw [show (1 : Int32) = nI 1 from rfl, nn_le (by omega) (by decide)] at g2; exact g2
      refine rl_bind (open_7 (n := 3) (k := k) (by decide) ew' ek' hf) ?_
      have wI : (upd (upd I 7 0) (32 + 3 * 3) (nI (k + 1))) (30 + 3 * 3) = nI (tW 3) := (upd_n _ _ (by decide)).trans ew'
      have sI : (upd (upd I 7 0) (32 + 3 * 3) (nI (k + 1))) (32 + 3 * 3) = nI (k + 1) := upd_s _ _ _
      refine rl_bind (put_7 (n := 3) (k := k) (c := 0) (by decide) wI sI hf (by decide)) ?_
      refine rl_bind (put_7 (n := 3) (k := k) (c := 1) (by decide) wI sI hf (by decide)) ?_
      rw [show (733 : Int32) + 42 * nI k = nI (733 + 42 * k) by rw [show (42 : Int32) = nI 42 from rfl, show (733 : Int32) = nI 733 from rfl, pk_mul, nI_add]]
      refine rr_gv (rr_ck (inB_n (by omega) (by decide)) (rr_gv ?_))
      rw [show nI (733 + 42 * k) + (1 : Int32) = nI (733 + 42 * k + 1) from nI_add _ _]
      refine rr_ck (inB_n (by omega) (by decide)) (rr_gv ?_)
      rw [ix_n (show 733 + 42 * k < 2 ^ 31 by omega), ix_n (show 733 + 42 * k + 1 < 2 ^ 31 by omega)]
      refine rb_bind (rw_2 (k := k) (hr := hh) (A0 := A) (A10 := A1) hf2 (by omega) wI sI hct FU 0 _ _ 0 (by unfold FU; omega) (by omega) ⟨fun a ha => ?_, fun j hj => ?_, fun a ha => ?_, fun j hj => ?_, fun c hc => ?_, ?_, ?_, fun c hc => by omega, Or.inl ⟨rfl, rfl⟩, by decide⟩) (fun A2 A3 h => ?_)
      · rw [va_up_ne _ _ ha, va_up_ne _ _ ha]
      · show upd (upd (A 40) (k * 42 + 0) (nI b)) (k * 42 + 1) (nI hh) j = _
        rw [upd_n _ _ (by omega), upd_n _ _ (by omega)]
      · rw [va_up_ne _ _ ha, va_up_ne _ _ ha]
      · show upd (upd (A1 1) (733 + 42 * k) (nI b)) (733 + 42 * k + 1) (nI hh) j = _
        rw [upd_n _ _ (by omega), upd_n _ _ (by omega)]
      · show upd (upd (A 40) (k * 42 + 0) (nI b)) (k * 42 + 1) (nI hh) (k * 42 + c) = upd (upd (A1 1) (733 + 42 * k) (nI b)) (733 + 42 * k + 1) (nI hh) (733 + (k * 42 + c))
        rcases (by omega : c = 0 ∨ c = 1) with rfl | rfl
        · rw [upd_n _ _ (by omega), upd_s, upd_n _ _ (by omega), show 733 + (k * 42 + 0) = 733 + 42 * k by omega, upd_s]
        · rw [upd_s, show 733 + (k * 42 + 1) = 733 + 42 * k + 1 by omega, upd_s]
      · show bt (upd (upd (A 40) (k * 42 + 0) (nI b)) (k * 42 + 1) (nI hh) (k * 42 + 0)) 0 1
        rw [upd_n _ _ (by omega), upd_s]
        exact bt_n (by omega) (by omega) (by omega)
      · show upd (upd (A 40) (k * 42 + 0) (nI b)) (k * 42 + 1) (nI hh) (k * 42 + 1) = _
        rw [upd_s]
      · obtain ⟨x, i1, i2, i3, i4, i5, i6, i7, i8, i9, i10⟩ := h
        refine rr_gv ?_
        refine ac_2 hX (RE_set hr0 (fun j hj => upd_n _ _ (by omega)) (fun a ha => i1 a (by omega)) (fun a ha => ?_) ?_) ?_
        · rw [va_up_ne _ _ ha]; exact i3 a ha
        · refine SR_tab (n := 3) (k := k) hX hr0.1 (by decide) hf ek' (fun c => A2 40 (k * 42 + c)) (fun c hc hu => ?_) (fun a ha => i1 a ha) (fun j hj => i2 j hj) (fun c hc hu => rfl) (fun j hj1 hj2 => ?_) (fun c hc hu => ?_) ?_
          · have hu2 : c % 42 < 2 + ix (A2 40 (k * 42 + (c / 42 * 42 + 1))) := hu rfl
            have hc2 : c < 42 := hc
            rw [Nat.mod_eq_of_lt hc2, Nat.div_eq_of_lt hc2, Nat.zero_mul, Nat.zero_add, i7, ix_n (by omega)] at hu2
            show GG 3 c (A2 40 (k * 42 + c))
            unfold GG
            rw [if_neg (by decide), if_neg (by decide), if_neg (by decide), if_neg (by decide)]
            by_cases q0 : c = 0
            · subst q0; rw [if_pos rfl]; exact i6
            · rw [if_neg q0]
              by_cases q1 : c = 1
              · subst q1; rw [if_pos rfl, i7]; exact bt_n (by omega) (by omega) (by omega)
              · rw [if_neg q1]
                obtain ⟨d, rfl⟩ : ∃ d, c = 2 + d := ⟨c - 2, by omega⟩
                exact i8 d (by omega)
          · have hj1 : ¬ (733 + k * 42 ≤ j ∧ j < 733 + k * 42 + 42) := hj1
            have hj2 : ¬ j = 1637 := hj2
            show upd (A3 1) 1637 (A3 1 1637 + 1) j = _
            rw [upd_n _ _ hj2]; exact i4 j hj1
          · have hu2 : c % 42 < 2 + ix (A2 40 (k * 42 + (c / 42 * 42 + 1))) := hu rfl
            have hc2 : c < 42 := hc
            rw [Nat.mod_eq_of_lt hc2, Nat.div_eq_of_lt hc2, Nat.zero_mul, Nat.zero_add, i7, ix_n (by omega)] at hu2
            show upd (A3 1) 1637 (A3 1 1637 + 1) (733 + (k * 42 + c)) = _
            rw [upd_n _ _ (by omega)]
            exact (i5 c hu2).symm
          · show upd (A3 1) 1637 (A3 1 1637 + 1) 1637 = _
            rw [upd_s, i4 _ (by omega), e1, nI_1]
        · show upd (upd I 7 0) 41 (nI (k + 1)) 41 = nI k + 1
          rw [upd_s, nI_1]
    · refine rl_f g2 ?_
      have gz : rg ((nI b).toInt8.toInt32) 0 1 = 0 := by
        refine Decidable.byContradiction (fun h => g2 (ty.1.mpr h))
      exact rr_t gz (rf_2 hX hr0 _)
  · have hf2 : k = 20 := by have : ¬ k < 20 := hf; omega
    rw [if_neg hf]
    refine rl_f (by decide) (rr_t (by rw [hf2]; rfl) ?_)
    exact rf_2 hX hr0 _
end P17
