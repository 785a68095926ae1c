section ZL
variable {I I1 : Nat → Int32} {J J1 : Nat → Int64} {A A1 : Nat → Nat → Int32} {B B1 : Nat → Nat → Int64} {T : Nat → Option Txt} {M : Nat → Option Img} {j : Nat}
theorem rb_st {α β : Type} {Q : α → β → Prop} {c c' : Prop} [Decidable c] [Decidable c'] {k f : Option α} {k' f' : Option β} (main : RB k k' Q) (h : RB k k' Q → RB (if c then k else f) (if c' then k' else f') Q) : RB (if c then k else f) (if c' then k' else f') Q := h main
theorem bc_8 {x3 : Int32} (hj : j < 48) : sX8_becomes (nI j) x3 I1 J1 A1 B1 = some (va_up (va_up A1 1 (upd (A1 1) (48 + j) x3)) 1 (upd (va_up A1 1 (upd (A1 1) (48 + j) x3) 1) (96 + j) 0)) := by
  unfold sX8_becomes
  rw [show (48 : Int32) + nI j = nI (48 + j) from nI_add 48 j, show (96 : Int32) + nI j = nI (96 + j) from nI_add 96 j, ck, if_pos (inB_n (by omega) (by decide)), ix_n (show 48 + j < 2 ^ 31 by omega), ix_n (show 96 + j < 2 ^ 31 by omega)]
  dsimp only [gv]
  rw [ck, if_pos (inB_n (by omega) (by decide))]
theorem cp_1 {a : Int32} {r : Int64} (h : r.toInt32.toInt64 = r) : (if a < r.toInt32 then (0 : Int32) else 1) = if lg_cmp a.toInt64 r < 0 then 0 else 1 := by
  have e : lg_cmp a.toInt64 r < 0 ↔ a < r.toInt32 := by
    rw [lg_cmp_lt, i32_lt, Int64.lt_iff_toInt_lt, Int32.toInt_toInt64]
    rw [← h, Int32.toInt_toInt64, h]
  by_cases c : a < r.toInt32
  · rw [if_pos c, if_pos (e.mpr c)]
  · rw [if_neg c, if_neg (fun q => c (e.mp q))]
set_option maxRecDepth 10000 in
/-- a new row of the drawings -/
theorem st_row {k x : Nat} {x1 x3 x4 vv : Int32} {I2 I3 : Nat → Int32} {J2 J3 : Nat → Int64} {A2 A3 : Nat → Nat → Int32} {B2 B3 : Nat → Nat → Int64} (hr : RE XX GG I2 J2 A2 B2 T M I3 J3 A3 B3) (ek : I2 35 = nI k) (hf : k < 60) (g1 : ¬ rg x1 0 9999 = 0) (hj : j < 48) (g3 : ¬ rg x3 0 1 = 0) (g4 : ¬ rg x4 0 7 = 0) (hx : x < 8) (hv : vv = 0 ∨ vv = 1) : RB ((sX5_open 1 I2 J2 A2 B2).bind fun I => (sX5_put 1 0 x1 I J2 A2 B2).bind fun A => (sX5_put 1 1 (nI j) I J2 A B2).bind fun A => (sX5_put 1 2 x3 I J2 A B2).bind fun A => (sX5_put 1 3 x4 I J2 A B2).bind fun A => (sX5_put 1 4 (nI x) I J2 A B2).bind fun A => (sX5_put 1 5 vv I J2 A B2).bind fun A => (sX7_accept vv I J2 A B2).bind fun (r_212, I) => some (r_212, I, J2, A, B2)) (gv (213 + (6 * nI k)) fun x8_145 => ck (inB x8_145 8047) <| gv (va_up A3 1 (upd (A3 1) (ix x8_145) x1)) fun A => ck (inB (x8_145 + 1) 8047) <| gv (va_up A 1 (upd (A 1) (ix (x8_145 + 1)) (nI j))) fun A => ck (inB (x8_145 + 2) 8047) <| gv (va_up A 1 (upd (A 1) (ix (x8_145 + 2)) x3)) fun A => ck (inB (x8_145 + 3) 8047) <| gv (va_up A 1 (upd (A 1) (ix (x8_145 + 3)) x4)) fun A => ck (inB (x8_145 + 4) 8047) <| gv (va_up A 1 (upd (A 1) (ix (x8_145 + 4)) (nI x))) fun A => ck (inB (x8_145 + 5) 8047) <| gv (va_up A 1 (upd (A 1) (ix (x8_145 + 5)) vv)) fun A => gv (va_up A 1 (upd (A 1) (ix 1635) ((A 1 (ix 1635)) + 1))) fun A => (sX8_good vv I3 J3 A B3).bind fun (r_223, I) => some (r_223, I, J3, A, B3)) (fun a b => a.1 = b.1 ∧ RE XX GG a.2.1 a.2.2.1 a.2.2.2.1 a.2.2.2.2 T M b.2.1 b.2.2.1 b.2.2.2.1 b.2.2.2.2) := by
  obtain ⟨ew, es, k', hk', ek', hc⟩ := hr.1.2.2.2.2.2.2.2.1 1 (by decide)
  have e1 : A3 1 1635 = nI k := es.symm.trans ek
  have hf1 : k < tN 1 := hf
  refine rl_bind (open_7 (by decide) ew ek hf1) ?_
  refine rl_bind (put_7 (n := 1) (k := k) (c := 0) (by decide) ((upd_n _ _ (by decide)).trans ew) (upd_s _ _ _) hf1 (by decide)) ?_
  refine rl_bind (put_7 (n := 1) (k := k) (c := 1) (by decide) ((upd_n _ _ (by decide)).trans ew) (upd_s _ _ _) hf1 (by decide)) ?_
  refine rl_bind (put_7 (n := 1) (k := k) (c := 2) (by decide) ((upd_n _ _ (by decide)).trans ew) (upd_s _ _ _) hf1 (by decide)) ?_
  refine rl_bind (put_7 (n := 1) (k := k) (c := 3) (by decide) ((upd_n _ _ (by decide)).trans ew) (upd_s _ _ _) hf1 (by decide)) ?_
  refine rl_bind (put_7 (n := 1) (k := k) (c := 4) (by decide) ((upd_n _ _ (by decide)).trans ew) (upd_s _ _ _) hf1 (by decide)) ?_
  refine rl_bind (put_7 (n := 1) (k := k) (c := 5) (by decide) ((upd_n _ _ (by decide)).trans ew) (upd_s _ _ _) hf1 (by decide)) ?_
  refine rr_gv ?_
  rw [show (213 : Int32) + 6 * nI k = nI (213 + 6 * k) by rw [show (6 : Int32) = nI 6 from rfl, show (213 : Int32) = nI 213 from rfl, pk_mul, nI_add]]
  refine rr_ck (inB_n (by omega) (by decide)) (rr_gv ?_)
  rw [show nI (213 + 6 * k) + (1 : Int32) = nI (213 + 6 * k + 1) from nI_add _ _]
  refine rr_ck (inB_n (by omega) (by decide)) (rr_gv ?_)
  rw [show nI (213 + 6 * k) + (2 : Int32) = nI (213 + 6 * k + 2) from nI_add _ _]
  refine rr_ck (inB_n (by omega) (by decide)) (rr_gv ?_)
  rw [show nI (213 + 6 * k) + (3 : Int32) = nI (213 + 6 * k + 3) from nI_add _ _]
  refine rr_ck (inB_n (by omega) (by decide)) (rr_gv ?_)
  rw [show nI (213 + 6 * k) + (4 : Int32) = nI (213 + 6 * k + 4) from nI_add _ _]
  refine rr_ck (inB_n (by omega) (by decide)) (rr_gv ?_)
  rw [show nI (213 + 6 * k) + (5 : Int32) = nI (213 + 6 * k + 5) from nI_add _ _]
  refine rr_ck (inB_n (by omega) (by decide)) (rr_gv ?_)
  refine rr_gv ?_
  rw [ix_n (show 213 + 6 * k < 2 ^ 31 by omega)]
  rw [ix_n (show 213 + 6 * k + 1 < 2 ^ 31 by omega)]
  rw [ix_n (show 213 + 6 * k + 2 < 2 ^ 31 by omega)]
  rw [ix_n (show 213 + 6 * k + 3 < 2 ^ 31 by omega)]
  rw [ix_n (show 213 + 6 * k + 4 < 2 ^ 31 by omega)]
  rw [ix_n (show 213 + 6 * k + 5 < 2 ^ 31 by omega)]
  refine rb_some ⟨rfl, ?_⟩
  refine RE_st xe_x 0 ?_
  dsimp only
  refine RE_set hr (fun j hj => upd_n _ _ (by omega)) (fun a ha => ?_) (fun a ha => ?_) ?_
  · rw [va_up_ne _ _ (by omega), va_up_ne _ _ (by omega), va_up_ne _ _ (by omega), va_up_ne _ _ (by omega), va_up_ne _ _ (by omega), va_up_ne _ _ (by omega)]
  · rw [va_up_ne _ _ ha, va_up_ne _ _ ha, va_up_ne _ _ ha, va_up_ne _ _ ha, va_up_ne _ _ ha, va_up_ne _ _ ha, va_up_ne _ _ ha]
  · refine SR_tab (n := 1) (k := k) xe_x hr.1 (by decide) hf1 ek (fun c => if c = 0 then x1 else if c = 1 then nI j else if c = 2 then x3 else if c = 3 then x4 else if c = 4 then nI x else vv) (fun c hc _ => ?_) (fun a ha => ?_) (fun j' hj' => ?_) (fun c hc _ => ?_) (fun j' hj1 hj2 => ?_) (fun c hc _ => ?_) ?_
    · match c, hc with
      | 0, _ => obtain ⟨u1, u2⟩ := rg_1 g1; exact bt_of u1 u2
      | 1, _ => show bt (nI j) 0 47; unfold bt; rw [nI_toInt (by omega)]; omega
      | 2, _ => obtain ⟨u1, u2⟩ := rg_1 g3; exact bt_of u1 u2
      | 3, _ => obtain ⟨u1, u2⟩ := rg_1 g4; exact bt_of u1 u2
      | 4, _ => show bt (nI x) 0 7; unfold bt; rw [nI_toInt (by omega)]; omega
      | 5, _ => show bt vv 0 1; rcases hv with rfl | rfl <;> exact ⟨by decide, by decide⟩
      | c + 6, hc => exact absurd hc (by show ¬ c + 6 < 6; omega)
    · rw [va_up_ne _ _ ha, va_up_ne _ _ ha, va_up_ne _ _ ha, va_up_ne _ _ ha, va_up_ne _ _ ha, va_up_ne _ _ ha]
    · have hj' : j' < k * 6 := hj'
      show (upd (upd (upd (upd (upd (upd (A2 34) (k * 6 + 0) (x1)) (k * 6 + 1) (nI j)) (k * 6 + 2) (x3)) (k * 6 + 3) (x4)) (k * 6 + 4) (nI x)) (k * 6 + 5) (vv)) j' = A2 34 j'
      rw [upd_n _ _ (by omega), upd_n _ _ (by omega), upd_n _ _ (by omega), upd_n _ _ (by omega), upd_n _ _ (by omega), upd_n _ _ (by omega)]
    · match c, hc with
      | 0, _ => show (upd (upd (upd (upd (upd (upd (A2 34) (k * 6 + 0) (x1)) (k * 6 + 1) (nI j)) (k * 6 + 2) (x3)) (k * 6 + 3) (x4)) (k * 6 + 4) (nI x)) (k * 6 + 5) (vv)) (k * 6 + 0) = x1; rw [upd_n _ _ (by omega), upd_n _ _ (by omega), upd_n _ _ (by omega), upd_n _ _ (by omega), upd_n _ _ (by omega), upd_s]
      | 1, _ => show (upd (upd (upd (upd (upd (upd (A2 34) (k * 6 + 0) (x1)) (k * 6 + 1) (nI j)) (k * 6 + 2) (x3)) (k * 6 + 3) (x4)) (k * 6 + 4) (nI x)) (k * 6 + 5) (vv)) (k * 6 + 1) = nI j; rw [upd_n _ _ (by omega), upd_n _ _ (by omega), upd_n _ _ (by omega), upd_n _ _ (by omega), upd_s]
      | 2, _ => show (upd (upd (upd (upd (upd (upd (A2 34) (k * 6 + 0) (x1)) (k * 6 + 1) (nI j)) (k * 6 + 2) (x3)) (k * 6 + 3) (x4)) (k * 6 + 4) (nI x)) (k * 6 + 5) (vv)) (k * 6 + 2) = x3; rw [upd_n _ _ (by omega), upd_n _ _ (by omega), upd_n _ _ (by omega), upd_s]
      | 3, _ => show (upd (upd (upd (upd (upd (upd (A2 34) (k * 6 + 0) (x1)) (k * 6 + 1) (nI j)) (k * 6 + 2) (x3)) (k * 6 + 3) (x4)) (k * 6 + 4) (nI x)) (k * 6 + 5) (vv)) (k * 6 + 3) = x4; rw [upd_n _ _ (by omega), upd_n _ _ (by omega), upd_s]
      | 4, _ => show (upd (upd (upd (upd (upd (upd (A2 34) (k * 6 + 0) (x1)) (k * 6 + 1) (nI j)) (k * 6 + 2) (x3)) (k * 6 + 3) (x4)) (k * 6 + 4) (nI x)) (k * 6 + 5) (vv)) (k * 6 + 4) = nI x; rw [upd_n _ _ (by omega), upd_s]
      | 5, _ => show (upd (upd (upd (upd (upd (upd (A2 34) (k * 6 + 0) (x1)) (k * 6 + 1) (nI j)) (k * 6 + 2) (x3)) (k * 6 + 3) (x4)) (k * 6 + 4) (nI x)) (k * 6 + 5) (vv)) (k * 6 + 5) = vv; rw [upd_s]
      | c + 6, hc => exact absurd hc (by show ¬ c + 6 < 6; omega)
    · have hj1 : ¬ (213 + k * 6 ≤ j' ∧ j' < 213 + k * 6 + 6) := hj1
      have hj2 : ¬ j' = 1635 := hj2
      show (upd (upd (upd (upd (upd (upd (upd (A3 1) (213 + 6 * k) (x1)) (213 + 6 * k + 1) (nI j)) (213 + 6 * k + 2) (x3)) (213 + 6 * k + 3) (x4)) (213 + 6 * k + 4) (nI x)) (213 + 6 * k + 5) (vv)) 1635 ((upd (upd (upd (upd (upd (upd (A3 1) (213 + 6 * k) (x1)) (213 + 6 * k + 1) (nI j)) (213 + 6 * k + 2) (x3)) (213 + 6 * k + 3) (x4)) (213 + 6 * k + 4) (nI x)) (213 + 6 * k + 5) (vv)) 1635 + 1)) j' = A3 1 j'
      rw [upd_n _ _ hj2, upd_n _ _ (by omega), upd_n _ _ (by omega), upd_n _ _ (by omega), upd_n _ _ (by omega), upd_n _ _ (by omega), upd_n _ _ (by omega)]
    · match c, hc with
      | 0, _ => show (upd (upd (upd (upd (upd (upd (upd (A3 1) (213 + 6 * k) (x1)) (213 + 6 * k + 1) (nI j)) (213 + 6 * k + 2) (x3)) (213 + 6 * k + 3) (x4)) (213 + 6 * k + 4) (nI x)) (213 + 6 * k + 5) (vv)) 1635 ((upd (upd (upd (upd (upd (upd (A3 1) (213 + 6 * k) (x1)) (213 + 6 * k + 1) (nI j)) (213 + 6 * k + 2) (x3)) (213 + 6 * k + 3) (x4)) (213 + 6 * k + 4) (nI x)) (213 + 6 * k + 5) (vv)) 1635 + 1)) (213 + (k * 6 + 0)) = x1; rw [upd_n _ _ (by omega), show 213 + (k * 6 + 0) = 213 + 6 * k by omega, upd_n _ _ (by omega), upd_n _ _ (by omega), upd_n _ _ (by omega), upd_n _ _ (by omega), upd_n _ _ (by omega), upd_s]
      | 1, _ => show (upd (upd (upd (upd (upd (upd (upd (A3 1) (213 + 6 * k) (x1)) (213 + 6 * k + 1) (nI j)) (213 + 6 * k + 2) (x3)) (213 + 6 * k + 3) (x4)) (213 + 6 * k + 4) (nI x)) (213 + 6 * k + 5) (vv)) 1635 ((upd (upd (upd (upd (upd (upd (A3 1) (213 + 6 * k) (x1)) (213 + 6 * k + 1) (nI j)) (213 + 6 * k + 2) (x3)) (213 + 6 * k + 3) (x4)) (213 + 6 * k + 4) (nI x)) (213 + 6 * k + 5) (vv)) 1635 + 1)) (213 + (k * 6 + 1)) = nI j; rw [upd_n _ _ (by omega), show 213 + (k * 6 + 1) = 213 + 6 * k + 1 by omega, upd_n _ _ (by omega), upd_n _ _ (by omega), upd_n _ _ (by omega), upd_n _ _ (by omega), upd_s]
      | 2, _ => show (upd (upd (upd (upd (upd (upd (upd (A3 1) (213 + 6 * k) (x1)) (213 + 6 * k + 1) (nI j)) (213 + 6 * k + 2) (x3)) (213 + 6 * k + 3) (x4)) (213 + 6 * k + 4) (nI x)) (213 + 6 * k + 5) (vv)) 1635 ((upd (upd (upd (upd (upd (upd (A3 1) (213 + 6 * k) (x1)) (213 + 6 * k + 1) (nI j)) (213 + 6 * k + 2) (x3)) (213 + 6 * k + 3) (x4)) (213 + 6 * k + 4) (nI x)) (213 + 6 * k + 5) (vv)) 1635 + 1)) (213 + (k * 6 + 2)) = x3; rw [upd_n _ _ (by omega), show 213 + (k * 6 + 2) = 213 + 6 * k + 2 by omega, upd_n _ _ (by omega), upd_n _ _ (by omega), upd_n _ _ (by omega), upd_s]
      | 3, _ => show (upd (upd (upd (upd (upd (upd (upd (A3 1) (213 + 6 * k) (x1)) (213 + 6 * k + 1) (nI j)) (213 + 6 * k + 2) (x3)) (213 + 6 * k + 3) (x4)) (213 + 6 * k + 4) (nI x)) (213 + 6 * k + 5) (vv)) 1635 ((upd (upd (upd (upd (upd (upd (A3 1) (213 + 6 * k) (x1)) (213 + 6 * k + 1) (nI j)) (213 + 6 * k + 2) (x3)) (213 + 6 * k + 3) (x4)) (213 + 6 * k + 4) (nI x)) (213 + 6 * k + 5) (vv)) 1635 + 1)) (213 + (k * 6 + 3)) = x4; rw [upd_n _ _ (by omega), show 213 + (k * 6 + 3) = 213 + 6 * k + 3 by omega, upd_n _ _ (by omega), upd_n _ _ (by omega), upd_s]
      | 4, _ => show (upd (upd (upd (upd (upd (upd (upd (A3 1) (213 + 6 * k) (x1)) (213 + 6 * k + 1) (nI j)) (213 + 6 * k + 2) (x3)) (213 + 6 * k + 3) (x4)) (213 + 6 * k + 4) (nI x)) (213 + 6 * k + 5) (vv)) 1635 ((upd (upd (upd (upd (upd (upd (A3 1) (213 + 6 * k) (x1)) (213 + 6 * k + 1) (nI j)) (213 + 6 * k + 2) (x3)) (213 + 6 * k + 3) (x4)) (213 + 6 * k + 4) (nI x)) (213 + 6 * k + 5) (vv)) 1635 + 1)) (213 + (k * 6 + 4)) = nI x; rw [upd_n _ _ (by omega), show 213 + (k * 6 + 4) = 213 + 6 * k + 4 by omega, upd_n _ _ (by omega), upd_s]
      | 5, _ => show (upd (upd (upd (upd (upd (upd (upd (A3 1) (213 + 6 * k) (x1)) (213 + 6 * k + 1) (nI j)) (213 + 6 * k + 2) (x3)) (213 + 6 * k + 3) (x4)) (213 + 6 * k + 4) (nI x)) (213 + 6 * k + 5) (vv)) 1635 ((upd (upd (upd (upd (upd (upd (A3 1) (213 + 6 * k) (x1)) (213 + 6 * k + 1) (nI j)) (213 + 6 * k + 2) (x3)) (213 + 6 * k + 3) (x4)) (213 + 6 * k + 4) (nI x)) (213 + 6 * k + 5) (vv)) 1635 + 1)) (213 + (k * 6 + 5)) = vv; rw [upd_n _ _ (by omega), show 213 + (k * 6 + 5) = 213 + 6 * k + 5 by omega, upd_s]
      | c + 6, hc => exact absurd hc (by show ¬ c + 6 < 6; omega)
    · show (upd (upd (upd (upd (upd (upd (upd (A3 1) (213 + 6 * k) (x1)) (213 + 6 * k + 1) (nI j)) (213 + 6 * k + 2) (x3)) (213 + 6 * k + 3) (x4)) (213 + 6 * k + 4) (nI x)) (213 + 6 * k + 5) (vv)) 1635 ((upd (upd (upd (upd (upd (upd (A3 1) (213 + 6 * k) (x1)) (213 + 6 * k + 1) (nI j)) (213 + 6 * k + 2) (x3)) (213 + 6 * k + 3) (x4)) (213 + 6 * k + 4) (nI x)) (213 + 6 * k + 5) (vv)) 1635 + 1)) 1635 = nI (k + 1)
      rw [upd_s, upd_n _ _ (by omega), upd_n _ _ (by omega), upd_n _ _ (by omega), upd_n _ _ (by omega), upd_n _ _ (by omega), upd_n _ _ (by omega), e1, nI_1]
end ZL
