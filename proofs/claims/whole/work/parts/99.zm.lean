section ZM
variable {I I1 : Nat → Int32} {J J1 : Nat → Int64} {A A1 : Nat → Nat → Int32} {B B1 : Nat → Nat → Int64} {T : Nat → Option Txt} {M : Nat → Option Img} {j : Nat}
theorem ps_step : PS_step (RE XX GG) := by
  intro x1 x2 x3 x4 x5 I J A B T M I1 J1 A1 B1 hr
  obtain ⟨p1, p2⟩ := tx_p hr.1 x5
  have fin : ∀ o o' : Option (Int32 × (Nat → Int32) × (Nat → Int64) × (Nat → Nat → Int32) × (Nat → Nat → Int64)), RB o o' (fun a b => a.1 = b.1 ∧ RE XX GG a.2.1 a.2.2.1 a.2.2.2.1 a.2.2.2.2 T M b.2.1 b.2.2.1 b.2.2.2.1 b.2.2.2.2) → ∃ r I2 J2 A2 B2 I3 J3 A3 B3, o = some (r, I2, J2, A2, B2) ∧ o' = some (r, I3, J3, A3, B3) ∧ RE XX GG I2 J2 A2 B2 T M I3 J3 A3 B3 := by
    intro o o' h
    obtain ⟨⟨r, I2, J2, A2, B2⟩, ⟨r', I3, J3, A3, B3⟩, h1, h2, h3, h4⟩ := h
    cases h3
    exact ⟨r, I2, J2, A2, B2, I3, J3, A3, B3, h1, h2, h4⟩
  have rf : ∀ v : Int32, RB ((sX7_refuse v I J A B).bind fun (r, I) => some (r, I, J, A, B)) ((sX8_refuses v I1 J1 A1 B1).bind fun (r, I) => some (r, I, J1, A1, B1)) (fun a b => a.1 = b.1 ∧ RE XX GG a.2.1 a.2.2.1 a.2.2.2.1 a.2.2.2.2 T M b.2.1 b.2.2.1 b.2.2.2.1 b.2.2.2.2) := fun v => rb_some ⟨rfl, RE_st xe_x v hr⟩
  refine ⟨fun h => fin _ _ ?_, fun t h => fin _ _ ?_⟩
  · unfold sX7_stepN sX8_step
    refine rl_bind (dy_7 x1) (rr_bind (dy_8 x1) (rb_if Iff.rfl (fun _ _ => rf _) (fun g1 _ => ?_)))
    refine rl_bind (jt_7 x2) (rr_bind (jt_8 x2) (rb_if Iff.rfl (fun _ _ => rf _) (fun g2 _ => ?_)))
    refine rl_bind (rg_wi _ _ _) (rr_bind (rg_in _ _ _) (rb_if Iff.rfl (fun _ _ => rf _) (fun g3 _ => ?_)))
    refine rl_bind (ps_7 x4) (rr_bind (rg_in _ _ _) (rb_if Iff.rfl (fun _ _ => rf _) (fun g4 _ => ?_)))
    exact rr_bind (it_8 _) (rr_t (p1 h) (rf _))
  · obtain ⟨x, hx, rfl, g, hX⟩ := p2 t h
    unfold sX7_stepS sX8_step
    refine rl_bind (dy_7 x1) (rr_bind (dy_8 x1) (rb_if Iff.rfl (fun _ _ => rf _) (fun g1 _ => ?_)))
    refine rl_bind (jt_7 x2) (rr_bind (jt_8 x2) (rb_if Iff.rfl (fun _ _ => rf _) (fun g2 _ => ?_)))
    refine rl_bind (rg_wi _ _ _) (rr_bind (rg_in _ _ _) (rb_if Iff.rfl (fun _ _ => rf _) (fun g3 _ => ?_)))
    refine rl_bind (ps_7 x4) (rr_bind (rg_in _ _ _) (rb_if Iff.rfl (fun _ _ => rf _) (fun g4 _ => ?_)))
    refine rr_bind (it_8 _) (rr_f g ?_)
    obtain ⟨u1, u2⟩ := rg_1 g2
    obtain ⟨j, hj, rfl⟩ := nI_of2 (n := 47) (by decide) u1 u2
    have hj : j < 48 := by omega
    obtain ⟨ew, es, k, hk, ek, hc⟩ := hr.1.2.2.2.2.2.2.2.1 1 (by decide)
    have hk60 : k ≤ 60 := hk
    have ek : I 35 = nI k := ek
    have e1 : A1 1 1635 = nI k := es.symm.trans ek
    refine rl_gv (rr_gv (rr_gv ?_))
    rw [show A1 1 (ix 1635) = nI k from e1, ek]
    refine rb_st ?_ (fun main => ?_)
    · refine rl_bind (full_7 (by decide) ew ek hk) ?_
      by_cases hf : k < tN 1
      · have hf2 : k < 60 := hf
        rw [if_pos hf]
        refine rl_t rfl (rr_f (by rw [show (60 : Int32) = nI 60 from rfl, nI_eq (by omega) (by decide)]; omega) ?_)
        have b3 : bt x3 0 1 := by obtain ⟨u1, u2⟩ := rg_1 g3; exact bt_of u1 u2
        have hr1 := RE_row hr 11 (by decide) (upd (A 11) j x3) (upd (A1 1) (48 + j) x3) (SR_11 xe_x hr.1 hj b3)
        have hr2 := RE_row hr1 12 (by decide) (upd (va_up A 11 (upd (A 11) j x3) 12) j 0) (upd (va_up A1 1 (upd (A1 1) (48 + j) x3) 1) (96 + j) 0) (SR_12 xe_x hr1.1 hj ⟨by decide, by decide⟩)
        refine rl_ck (inB_n hj (by decide)) (rl_gv ?_)
        rw [ix_n (show j < 2 ^ 31 by omega)]
        refine rl_ck (inB_n hj (by decide)) (rl_gv ?_)
        refine rr_bind (bc_8 hj) ?_
        refine rl_bind (hold_7 hj) (rr_bind (hold_8 hr2.1 hj) ?_)
        obtain ⟨x', hx', ex, -, hX2⟩ := (tx_p hr2.1 (nI x)).2 t h
        have exx : x = x' := (nI_eq (by omega) (by omega)).mp ex
        subst exx
        obtain ⟨r, I2, J2, A2, B2, I3, J3, A3, B3, E1, E2, n2, n3, n4, n5⟩ := nd_x (x3 := x1) hx hj hX2 hr2
        refine rl_bind E1 (rr_bind E2 ?_)
        refine rl_gv (rr_gv ?_)
        rw [cp_1 n2]
        refine st_row n3 ((n4 35 (by decide)).trans ek) hf2 g1 hj g3 g4 hx ?_
        by_cases c : lg_cmp (hdf (va_up (va_up A 11 (upd (A 11) j x3)) 12 (upd (va_up A 11 (upd (A 11) j x3) 12) j 0)) j).toInt64 r < 0
        · rw [if_pos c]; exact Or.inl rfl
        · rw [if_neg c]; exact Or.inr rfl
      · have hf2 : k = 60 := by have : ¬ k < 60 := hf; omega
        rw [if_neg hf]
        exact rl_f (by decide) (rr_t (by rw [hf2]; rfl) (rf _))
    · by_cases k0 : k = 0
      · subst k0
        exact rl_t (by decide) (rr_t (by decide) main)
      · refine rl_f (by rw [show (0 : Int32) = nI 0 from rfl, nn_le (by omega) (by decide)]; omega) (rr_f (by rw [show (0 : Int32) = nI 0 from rfl, nn_le (by omega) (by decide)]; omega) ?_)
        have em : nI k - 1 = nI (k - 1) := by rw [show (1 : Int32) = nI 1 from rfl, pk_sub (by omega)]
        rw [em]
        have hcell := hc ((k - 1) * 6 + 0) (by show (k - 1) * 6 + 0 < k * 6; omega) (fun q => absurd q (by decide))
        have s8 : sX8_stepOf (nI (k - 1)) 0 I1 J1 A1 B1 = some (A1 1 (213 + ((k - 1) * 6 + 0))) := by
          unfold sX8_stepOf
          rw [show (213 : Int32) + 6 * nI (k - 1) + 0 = nI (213 + ((k - 1) * 6 + 0)) by rw [show (6 : Int32) = nI 6 from rfl, pk_mul, show (213 : Int32) = nI 213 from rfl, nI_add, show (0 : Int32) = nI 0 from rfl, nI_add]; exact congrArg nI (by omega), ck, if_pos (inB_n (by omega) (by decide)), ix_n (by omega)]
        refine rl_bind (cell_7 (n := 1) (i := k - 1) (c := 0) (by decide) ew ek hk (by omega) (by decide)) (rr_bind s8 ?_)
        refine rb_if (by rw [show A1 1 (213 + ((k - 1) * 6 + 0)) = A (31 + 3 * 1) ((k - 1) * tW 1 + 0) from hcell.1.symm]) (fun _ _ => main) (fun _ _ => rf _)
end ZM
