theorem runG_t {e : Nat → Nat → Int} : ∀ (n : Nat) (g : Nat → Bool) (o : List Nat) (t : Nat), (runG e n g o).2 = some t → t < 6 := by
  intro n
  induction n with
  | zero => intro g o t h; cases h
  | succ n ih =>
    intro g o t h
    rw [runG] at h
    cases hl : lowF e g 6 with
    | some u =>
      rw [hl] at h
      cases h
      exact (lowF_s hl).1
    | none =>
      rw [hl] at h
      dsimp only at h
      cases hb : bG (qF e g) 6 with
      | none => rw [hb] at h; cases h
      | some p => rw [hb] at h; exact ih _ _ _ h
section T3
variable {X : Txt → Int32 → (Nat → Int32) → (Nat → Int32) → Prop} {I I' I1 I1' : Nat → Int32} {J J' J1 J1' : Nat → Int64} {A A' A1 A1' : Nat → Nat → Int32} {B B' B1 B1' : Nat → Nat → Int64} {T : Nat → Option Txt} {M : Nat → Option Img} {K : Nat → Int32} {c : Int32} {k w : Nat}
theorem hd_v (hs : SR X GG I A T K) {j : Nat} (hj : j < 48) : (hdf A j).toInt = (if A 11 j = 0 then (A 15 0).toInt else (A 15 1).toInt + ((A 15 0).toInt - (A 15 1).toInt) * (A 12 j).toInt / 4) ∧ (A 15 1).toInt ≤ (hdf A j).toInt ∧ (hdf A j).toInt ≤ (A 15 0).toInt ∧ 1 ≤ (A 15 1).toInt ∧ (A 15 0).toInt ≤ 100000 := by
  have h0 : bt (A 15 0) 1 100000 := (hs.2.2.2.2.2.1.1 0 (by decide)).2
  have h1 : bt (A 15 1) 1 100000 := (hs.2.2.2.2.2.1.1 1 (by decide)).2
  have hle := hs.2.2.2.2.2.1.2
  rw [i32_le] at hle
  have hq : bt (A 12 j) 0 4 := (hs.2.2.1 j hj).2
  have hsub : (A 15 0 - A 15 1).toInt = (A 15 0).toInt - (A 15 1).toInt := i_sub rfl rfl (by omega)
  have hab : (((A 15 0).toInt - (A 15 1).toInt) * (A 12 j).toInt).natAbs ≤ 400000 := ab_mul (m := 100000) (n := 4) (by omega) (by omega)
  have hmul : ((A 15 0 - A 15 1) * A 12 j).toInt = ((A 15 0).toInt - (A 15 1).toInt) * (A 12 j).toInt := i_mul hsub rfl (by omega)
  have hn : 0 ≤ ((A 15 0).toInt - (A 15 1).toInt) * (A 12 j).toInt := Int.mul_nonneg (by omega) hq.1
  have hu : ((A 15 0).toInt - (A 15 1).toInt) * (A 12 j).toInt ≤ ((A 15 0).toInt - (A 15 1).toInt) * 4 := Int.mul_le_mul_of_nonneg_left hq.2 (by omega)
  have hdiv : ((A 15 0 - A 15 1) * A 12 j / 4).toInt = ((A 15 0).toInt - (A 15 1).toInt) * (A 12 j).toInt / 4 := by
    rw [Int32.toInt_div_of_ne_right _ _ (by decide), hmul, show (4 : Int32).toInt = 4 from rfl, Int.tdiv_eq_ediv_of_nonneg hn]
  unfold hdf
  by_cases hz : A 11 j = 0
  · rw [if_pos hz, if_pos hz]
    omega
  · rw [if_neg hz, if_neg hz, i_add rfl hdiv (by omega)]
    omega
theorem rd6 {f : Nat → Int} (hf : ∀ s, s < 6 → 0 ≤ f s ∧ f s ≤ 20) : ∀ (q n : Nat) (x1 x2 : Int32) (A : Nat → Nat → Int32), q < n → q ≤ 6 → x1.toInt = aS f q → x2.toInt = lS f q → (∀ t, q ≤ t → t < 6 → (A 55 t).toInt = aS f t ∧ (A 56 t).toInt = lS f t) → (∀ s, s < 6 → (A 13 s).toInt = f s) → SP (lX1_ready_6 n x1 x2 (dw q) I J A B) (fun A2 => (∀ a, ¬ a = 55 → ¬ a = 56 → A2 a = A a) ∧ ∀ t, t < 6 → (A2 55 t).toInt = aS f t ∧ (A2 56 t).toInt = lS f t) := by
  intro q
  induction q with
  | zero =>
    intro n x1 x2 A hn _ _ _ hA _
    obtain ⟨m, rfl⟩ : ∃ m, n = m + 1 := ⟨n - 1, by omega⟩
    rw [lX1_ready_6]
    exact sp_t (by decide) (sp_some ⟨fun _ _ _ => rfl, fun t ht => hA t (by omega) ht⟩)
  | succ q ih =>
    intro n x1 x2 A hn hq h1 h2 hA h13
    obtain ⟨m, rfl⟩ : ∃ m, n = m + 1 := ⟨n - 1, by omega⟩
    rw [lX1_ready_6, dw_s q (by omega), show dw (q + 1) = nI q from rfl, ix_n (by omega)]
    refine sp_f (nI_n0 (by omega)) ?_
    refine sp_ck (inB_n (by omega) (by decide)) ?_
    have b := aS_b hf q (by omega)
    have s1 := aS_s f (show q < 6 by omega)
    have s2 := lS_s f (show q < 6 by omega)
    refine sp_gvG (fun y1 hy1 => ?_)
    have v1 : y1.toInt = aS f q := by rw [hy1, i_add h1 (h13 q (by omega)) (by rw [← s1]; omega), s1]
    refine sp_gvG (fun y2 hy2 => ?_)
    have v2 : y2.toInt = lS f q := by rw [hy2, i_add h2 v1 (by rw [← s2]; omega), s2]
    refine sp_ck (inB_n (by omega) (by decide)) ?_
    refine sp_gv ?_
    refine sp_ck (inB_n (by omega) (by decide)) ?_
    refine sp_gv ?_
    refine sp_gv ?_
    obtain ⟨A2, r1, r2, r3⟩ := ih m y1 y2 (va_up (va_up A 55 (upd (A 55) q y1)) 56 (upd ((va_up A 55 (upd (A 55) q y1)) 56) q y2)) (by omega) (by omega) v1 v2 (fun t t1 t2 => by
      rw [va_up_ne _ _ (show ¬ 55 = 56 by decide), va_up_self, va_up_self, va_up_ne _ _ (show ¬ 56 = 55 by decide)]
      by_cases z : t = q
      · subst z; rw [upd_s, upd_s]; exact ⟨v1, v2⟩
      · rw [upd_n _ _ z, upd_n _ _ z]; exact hA t (by omega) t2) h13
    exact ⟨A2, r1, fun a a1 a2 => by rw [r2 a a1 a2, va_up_ne _ _ a2, va_up_ne _ _ a1], r3⟩
theorem rd48 {A0 : Nat → Nat → Int32} : ∀ (n p : Nat) (A : Nat → Nat → Int32), 48 < p + n → p ≤ 48 → (∀ a, ¬ a = 51 → A a = A0 a) → (∀ j, j < p → A 51 j = hdf A0 j) → SP (lX1_ready_48 n (nI p) I J A B) (fun A2 => (∀ a, ¬ a = 51 → A2 a = A0 a) ∧ ∀ j, j < 48 → A2 51 j = hdf A0 j) := by
  intro n
  induction n with
  | zero => intro p A h1 h2; omega
  | succ n ih =>
    intro p A h1 h2 hA h51
    rw [lX1_ready_48]
    by_cases hp : p = 48
    · subst hp
      exact sp_t (by decide) (sp_some ⟨hA, h51⟩)
    · refine sp_f (by rw [show (48 : Int32) = nI 48 from rfl, nn_le (by decide) (by omega)]; omega) ?_
      refine sp_bind (hold_7 (by omega)) ?_
      refine sp_ck (inB_n (by omega) (by decide)) ?_
      refine sp_gv ?_
      refine sp_gv ?_
      rw [ix_n (by omega), nI_1]
      have e : hdf A p = hdf A0 p := by unfold hdf; rw [hA 11 (by decide), hA 12 (by decide), hA 15 (by decide)]
      refine ih (p + 1) _ (by omega) (by omega) (fun a ha => by rw [va_up_ne _ _ ha]; exact hA a ha) (fun j hj => ?_)
      rw [va_up_self]
      by_cases z : j = p
      · subst z; rw [upd_s, e]
      · rw [upd_n _ _ z]; exact h51 j (by omega)
theorem sl_7 (hs : SR X GG I' A' T K) (h15 : A 15 = A' 15) {x : Int32} {lg : Int} (hx : x.toInt = lg) (hl : 0 ≤ lg ∧ lg ≤ 10) : ∃ v : Int32, sX1_standLegAt x I J A B = some (upd I 57 v) ∧ v.toInt = (A 15 2).toInt * (10 - lg) := by
  have h2 : bt (A' 15 2) 0 100 := (hs.2.2.2.2.2.1.1 2 (by decide)).2
  rw [← h15] at h2
  refine ⟨_, rfl, ?_⟩
  have h10 : ((sv_1 (ix 3)) - x).toInt = 10 - lg := i_sub (show (sv_1 (ix 3)).toInt = 10 from rfl) hx (by omega)
  have hb : ((A 15 2).toInt * (10 - lg)).natAbs ≤ 1000 := ab_mul (m := 100) (n := 10) (by omega) (by omega)
  exact i_mul rfl h10 (by omega)
theorem rd_7 (hs : SR X GG I A T K) : ∃ I2 A2, sX1_ready I J A B = some (I2, A2) ∧ (∀ k, ¬ k = 57 → I2 k = I k) ∧ (∀ a, ¬ a = 51 → ¬ a = 55 → ¬ a = 56 → A2 a = A a) ∧ RY (fun j => (hdf A j).toInt) (A 15 3).toInt I2 A2 := by
  obtain ⟨A2, q1, q2, q3⟩ := rd6 (I := I) (J := J) (B := B) (f := fun s => (A 13 s).toInt) (fun s h => (hs.2.2.2.1 s h).2) 6 FU 0 0 A (by unfold FU; omega) (by omega) rfl rfl (fun t t1 t2 => by omega) (fun s _ => rfl)
  have q1 : lX1_ready_6 FU 0 0 5 I J A B = some A2 := q1
  obtain ⟨A3, r1, r2, r3⟩ := rd48 (I := I) (J := J) (B := B) (A0 := A2) FU 0 A2 (by unfold FU; omega) (by omega) (fun _ _ => rfl) (fun j hj => by omega)
  have r1 : lX1_ready_48 FU 0 I J A2 B = some A3 := r1
  have h3 : bt (A 15 3) 0 10 := (hs.2.2.2.2.2.1.1 3 (by decide)).2
  have e15 : A3 15 = A 15 := (r2 15 (by decide)).trans (q2 15 (by decide) (by decide))
  obtain ⟨v, v1, v2⟩ := sl_7 (I := I) (J := J) (A := A3) (B := B) hs e15 (x := A3 15 (ix 3)) (lg := (A 15 3).toInt) (by rw [e15]; rfl) h3
  refine ⟨upd I 57 v, A3, by unfold sX1_ready; rw [q1, Option.bind_some, r1, Option.bind_some, v1]; rfl, fun k hk => upd_n _ _ hk, fun a a1 a2 a3 => by rw [r2 a a1, q2 a a2 a3], fun j hj => ?_, fun t ht => ?_, fun t ht => ?_, ?_⟩
  · rw [r3 j hj]
    unfold hdf
    rw [q2 11 (by decide) (by decide), q2 12 (by decide) (by decide), q2 15 (by decide) (by decide)]
  · rw [r2 55 (by decide), r2 13 (by decide), q2 13 (by decide) (by decide)]; exact (q3 t ht).1
  · rw [r2 56 (by decide), r2 13 (by decide), q2 13 (by decide) (by decide)]; exact (q3 t ht).2
  · rw [upd_s, v2]
/-- Bearing behind ready(), and both ready for a wind -/
theorem rb_w (hs : SR X GG I A T (A1 1)) (ek : I 32 = nI k) (hk : k ≤ 16) (hw : w < k) : RS (eS (fun j => (hdf A j).toInt) (A 15 3).toInt A w c) w c A1 := by
  have h3 : bt (A 15 3) 0 10 := (hs.2.2.2.2.2.1.1 3 (by decide)).2
  refine rs_of hs ek hk hw (fun j hj => ?_) h3 (fun _ _ _ => rfl) (fun j hj => ⟨hdf A j, rfl, fun I J B => hold_8 hs hj⟩) ?_
  · have := hd_v hs hj
    show 0 ≤ (hdf A j).toInt ∧ (hdf A j).toInt ≤ 100000
    omega
  · rw [← (hs.2.2.2.2.2.1.1 3 (by decide)).1]
theorem eS_x {h : Nat → Int} {lg : Int} (h10 : A' 10 = A 10) (h14 : A' 14 = A 14) (h13 : A' 13 = A 13) (h31 : A' 31 = A 31) (h15 : A' 15 = A 15) : eS h lg A' w c = eS h lg A w c := by
  unfold eS pt
  rw [h10, h14, h13, h31, h15]
/-- the winds counted alike -/
theorem wk_2 (hs : SR X GG I A T (A1 1)) : ∃ k, k ≤ 16 ∧ I 32 = nI k ∧ A1 1 1633 = nI k := by
  obtain ⟨-, es, k, hk, ek, -⟩ := hs.2.2.2.2.2.2.2.1 0 (by decide)
  exact ⟨k, hk, ek, es.symm.trans ek⟩
theorem ib_0 {x y : Int32} (ek : I 32 = nI k) (hk : k ≤ 16) (h : rg x 0 (nI k - 1) = 0) : sX7_isBlowing x y I J A B = some 0 := by
  unfold sX7_isBlowing
  show some _ = _
  congr 1
  by_cases h1 : x < 0
  · rw [if_pos h1]
  · rw [if_neg h1]
    obtain ⟨i, hi, rfl⟩ := nI_of h1
    rw [ek]
    by_cases h2 : nI k ≤ nI i
    · rw [if_pos h2]
    · exfalso
      rw [nn_le (by omega) hi] at h2
      unfold rg at h
      rw [if_neg h1, if_neg (by rw [i32_lt, show (1 : Int32) = nI 1 from rfl, pk_sub_toInt (by omega) (by decide), nI_toInt hi]; omega)] at h
      cases h
theorem ib_1 {x y : Int32} (ek : I 32 = nI k) (hk : k ≤ 16) (h : ¬ rg x 0 (nI k - 1) = 0) : ∃ w, w < k ∧ x = nI w ∧ sX7_isBlowing x y I J A B = some (if y = 0 then 1 else if y = 1 then 1 else 0) := by
  obtain ⟨h1, h2⟩ := rg_1 h
  obtain ⟨i, hi, rfl⟩ := nI_of h1
  have hik : i < k := by
    rw [i32_le, show (1 : Int32) = nI 1 from rfl, pk_sub_toInt (by omega) (by decide), nI_toInt hi] at h2
    omega
  refine ⟨i, hik, rfl, ?_⟩
  unfold sX7_isBlowing
  show some _ = _
  rw [if_neg h1, ek, if_neg (by rw [nn_le (by omega) hi]; omega)]
theorem iw_8 (e : A1 1 1633 = nI k) (x : Int32) : sX8_isWind x I1 J1 A1 B1 = some (rg x 0 (nI k - 1)) := by
  unfold sX8_isWind
  rw [show A1 1 (ix 1633) = nI k from e, rg_in]
  show ck _ _ = _
  rw [ck, if_pos (rg_isB _ _ _)]
theorem rg_01 {y : Int32} : (¬ rg y 0 1 = 0 ↔ (y = 0 ∨ y = 1)) := by
  constructor
  · intro h
    obtain ⟨h1, h2⟩ := rg_1 h
    obtain ⟨i, hi, rfl⟩ := nI_of2 (n := 1) (by decide) h1 h2
    rcases (by omega : i = 0 ∨ i = 1) with rfl | rfl
    · exact Or.inl rfl
    · exact Or.inr rfl
  · rintro (rfl | rfl) <;> decide
theorem if_01 {y : Int32} : (y = 0 ∨ y = 1) → (if y = 0 then (1 : Int32) else if y = 1 then 1 else 0) = 1 := by rintro (rfl | rfl) <;> decide
theorem if_02 {y : Int32} (h : ¬ (y = 0 ∨ y = 1)) : (if y = 0 then (1 : Int32) else if y = 1 then 1 else 0) = 0 := by rw [if_neg (fun q => h (Or.inl q)), if_neg (fun q => h (Or.inr q))]
/-- both let joints go -/
theorem bb_2 (hX : XE X) (hr : RE X GG I J A B T M I1 J1 A1 B1) (ek : I 32 = nI k) (hk : k ≤ 16) (hw : w < k) (hc : c = 0 ∨ c = 1) : ∃ Ia Aa I2 J2 A2 B2 I3 J3 A3 B3 L o, sX1_ready I J A B = some (Ia, Aa) ∧ sX1_breakUp (nI w) c Ia J Aa B = some (I2, J2, A2, B2) ∧ sX8_blows (nI w) c I1 J1 A1 B1 = some (I3, J3, A3, B3) ∧ L ≤ 48 ∧ I2 53 = nI L ∧ I3 15 = nI L ∧ (∀ i, i < L → A2 52 i = A3 14 i) ∧ I2 54 = fI o ∧ I3 16 = fI o ∧ (∀ t, o = some t → t < 6) ∧ RE X GG I2 J2 A2 B2 T M I3 J3 A3 B3 ∧ I2 32 = I 32 ∧ A2 31 = A 31 ∧ A3 1 = A1 1 := by
  have h3 : bt (A 15 3) 0 10 := (hr.1.2.2.2.2.2.1.1 3 (by decide)).2
  obtain ⟨Ia, Aa, q1, q2, q3, q4⟩ := rd_7 (J := J) (B := B) hr.1
  have hsa : SR X GG Ia Aa T (A1 1) := SR_ext hX (fun k k1 k2 => q2 k (by omega)) (fun a k1 k2 j => by rw [q3 a (by omega) (by omega) (by omega)]) (fun _ _ => rfl) hr.1
  have hh : ∀ j, j < 48 → 0 ≤ (fun j => (hdf A j).toInt) j ∧ (fun j => (hdf A j).toInt) j ≤ 100000 := fun j hj => by
    have := hd_v hr.1 hj
    show 0 ≤ (hdf A j).toInt ∧ (hdf A j).toInt ≤ 100000
    omega
  obtain ⟨J2, b1, b2⟩ := bw_s (J := J) (B := B) hsa ((q2 32 (by decide)).trans ek) hk hw hc hh h3 q4
  have ee : eS (fun j => (hdf A j).toInt) (A 15 3).toInt Aa w c = eS (fun j => (hdf A j).toInt) (A 15 3).toInt A w c := eS_x (q3 10 (by decide) (by decide) (by decide)) (q3 14 (by decide) (by decide) (by decide)) (q3 13 (by decide) (by decide) (by decide)) (q3 31 (by decide) (by decide) (by decide)) (q3 15 (by decide) (by decide) (by decide))
  rw [ee] at b2
  obtain ⟨I2, A2, B2, r1, r2, r3, r4, r5, r6⟩ := bw_7 b1 b2
  obtain ⟨⟨I3, J3, A3, B3⟩, s1, s2, s3, s4, s5⟩ := bw_8 (I := I1) (J := J1) (B := B1) (rb_w (c := c) hr.1 ek hk hw)
  refine ⟨Ia, Aa, I2, J2, A2, B2, I3, J3, A3, B3, _, _, q1, r1, s1, r5, r3, s3, fun i hi => (r4 i hi).trans (s4 i hi).symm, r6, s5, fun t ht => runG_t _ _ _ t ht, ?_, ?_, ?_, ?_⟩
  · refine RE_br hX (fun k hk => ?_) (fun a ha => ?_) (fun k hk => s2.1 k (by omega) (by omega)) (fun a ha => s2.2.2.1 a (by omega) (by omega)) hr
    · rw [r2.1 k (by omega) (by omega), q2 k (by omega)]
    · rw [r2.2.1 a (by omega) (by omega) (by omega) (by omega), q3 a (by omega) (by omega) (by omega)]
  · rw [r2.1 32 (by decide) (by decide), q2 32 (by decide)]
  · rw [r2.2.1 31 (by decide) (by decide) (by decide) (by decide), q3 31 (by decide) (by decide) (by decide)]
  · exact s2.2.2.1 1 (by decide) (by decide)
end T3
