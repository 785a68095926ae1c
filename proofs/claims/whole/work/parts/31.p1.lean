
/-- X looks at no more than 400 words -/
abbrev XE (X : Txt → Int32 → (Nat → Int32) → (Nat → Int32) → Prop) : Prop := ∀ (t : Txt) (n : Int32) (f g f' g' : Nat → Int32), (∀ i, i < 400 → f' i = f i) → (∀ i, i < 400 → g' i = g i) → X t n f g → X t n f' g'
theorem tb_r : ∀ n, n < 5 → 165 ≤ tB n ∧ tB n + tN n * tW n ≤ 1633 ∧ (tB n + tN n * tW n ≤ 573 ∨ 637 ≤ tB n) ∧ 1633 ≤ tO n ∧ tO n < 1639 ∧ tO n ≠ 1634 := by decide
theorem upd_s (f : Nat → Int32) (k : Nat) (v : Int32) : upd f k v k = v := by simp [upd]
theorem upd_n (f : Nat → Int32) {k j : Nat} (v : Int32) (h : ¬ j = k) : upd f k v j = f j := by simp [upd, h]
section P1
variable {X : Txt → Int32 → (Nat → Int32) → (Nat → Int32) → Prop} {G : Nat → Nat → Int32 → Prop} {I I' : Nat → Int32} {A A' : Nat → Nat → Int32} {T : Nat → Option Txt} {K K' : Nat → Int32}
/-- the rows that a state's binding looks at, the numbers and the words kept -/
theorem SR_ext (hX : XE X) (hI : ∀ k, 10 ≤ k → k < 45 → I' k = I k) (hA : ∀ k, 10 ≤ k → k < 45 → ∀ j, A' k j = A k j) (hK : ∀ j, j < 8047 → K' j = K j) (h : SR X G I A T K) : SR X G I' A' T K' := by
  obtain ⟨h10, h11, h12, h13, h14, ⟨h15, h15b⟩, h16, htb, h23, k, hk, ek, ht⟩ := h
  refine ⟨fun j hj => ?_, fun j hj => ?_, fun j hj => ?_, fun j hj => ?_, fun j hj => ?_, ⟨fun j hj => ?_, ?_⟩, fun j hj => ?_, fun n hn => ?_, ?_, k, hk, ?_, fun j hj => ?_⟩
  · rw [hA 10 (by omega) (by omega), hK _ (by omega)]; exact h10 j hj
  · rw [hA 11 (by omega) (by omega), hK _ (by omega)]; exact h11 j hj
  · rw [hA 12 (by omega) (by omega), hK _ (by omega)]; exact h12 j hj
  · rw [hA 13 (by omega) (by omega), hK _ (by omega)]; exact h13 j hj
  · rw [hA 14 (by omega) (by omega), hK _ (by omega)]; exact h14 j hj
  · rw [hA 15 (by omega) (by omega), hK _ (by omega)]; exact h15 j hj
  · rw [hA 15 (by omega) (by omega), hA 15 (by omega) (by omega)]; exact h15b
  · rw [hA 16 (by omega) (by omega), hK _ (by omega)]; exact h16 j hj
  · obtain ⟨e1, e2, k, hk, e3, e4⟩ := htb n hn
    have hr := tb_r n hn
    refine ⟨by rw [hI _ (by omega) (by omega)]; exact e1, by rw [hI _ (by omega) (by omega), hK _ (by omega)]; exact e2, k, hk, by rw [hI _ (by omega) (by omega)]; exact e3, fun j hj => ?_⟩
    have := Nat.mul_le_mul_right (tW n) hk
    rw [show A' (31 + 3 * n) = A (31 + 3 * n) from funext (hA _ (by omega) (by omega)), hK _ (by omega)]
    exact e4 j hj
  · rw [hI _ (by omega) (by omega), hK _ (by omega)]; exact h23
  · rw [hI _ (by omega) (by omega)]; exact ek
  · obtain ⟨t, e1, e2⟩ := ht j hj
    refine ⟨t, e1, ?_⟩
    rw [hK _ (by omega)]
    exact hX _ _ _ _ _ _ (fun i hi => hK _ (by omega)) (fun i hi => hK _ (by omega)) e2
theorem SR_10 (hX : XE X) (h : SR X G I A T K) {k : Nat} (hk : k < 48) {v : Int32} (hv : bt v 1 9) : SR X G I (va_up A 10 (upd (A 10) k v)) T (upd K (0 + k) v) := by
  obtain ⟨h10, h11, h12, h13, h14, ⟨h15, h15b⟩, h16, htb, h23, kt, hkt, ek, ht⟩ := h
  have nK : ∀ j, ¬ j = 0 + k → upd K (0 + k) v j = K j := fun j h => upd_n K v h
  have nA : ∀ a, ¬ a = 10 → va_up A 10 (upd (A 10) k v) a = A a := fun a h => va_up_ne A _ h
  refine ⟨fun j hj => ?_, fun j hj => ?_, fun j hj => ?_, fun j hj => ?_, fun j hj => ?_, ⟨fun j hj => ?_, ?_⟩, fun j hj => ?_, fun n hn => ?_, ?_, kt, hkt, ek, fun j hj => ?_⟩
  · rw [va_up_self]
    by_cases e : j = k
    · subst e; rw [upd_s, show upd K (0 + j) v (j) = v by rw [Nat.zero_add]; exact upd_s _ _ _]; exact ⟨rfl, hv⟩
    · rw [upd_n _ _ e, nK _ (by omega)]; exact h10 j hj
  · rw [nA 11 (by decide), nK _ (by omega)]; exact h11 j hj
  · rw [nA 12 (by decide), nK _ (by omega)]; exact h12 j hj
  · rw [nA 13 (by decide), nK _ (by omega)]; exact h13 j hj
  · rw [nA 14 (by decide), nK _ (by omega)]; exact h14 j hj
  · rw [nA 15 (by decide), nK _ (by omega)]; exact h15 j hj
  · rw [nA 15 (by decide)]; exact h15b
  · rw [nA 16 (by decide), nK _ (by omega)]; exact h16 j hj
  · obtain ⟨e1, e2, k2, hk2, e3, e4⟩ := htb n hn
    have hr := tb_r n hn
    refine ⟨e1, by rw [nK _ (by omega)]; exact e2, k2, hk2, e3, fun j hj => ?_⟩
    rw [nA _ (by omega), nK _ (by omega)]
    exact e4 j hj
  · rw [nK _ (by omega)]; exact h23
  · obtain ⟨t, e1, e2⟩ := ht j hj
    refine ⟨t, e1, ?_⟩
    rw [nK _ (by omega)]
    exact hX _ _ _ _ _ _ (fun i hi => nK _ (by omega)) (fun i hi => nK _ (by omega)) e2
theorem SR_11 (hX : XE X) (h : SR X G I A T K) {k : Nat} (hk : k < 48) {v : Int32} (hv : bt v 0 1) : SR X G I (va_up A 11 (upd (A 11) k v)) T (upd K (48 + k) v) := by
  obtain ⟨h10, h11, h12, h13, h14, ⟨h15, h15b⟩, h16, htb, h23, kt, hkt, ek, ht⟩ := h
  have nK : ∀ j, ¬ j = 48 + k → upd K (48 + k) v j = K j := fun j h => upd_n K v h
  have nA : ∀ a, ¬ a = 11 → va_up A 11 (upd (A 11) k v) a = A a := fun a h => va_up_ne A _ h
  refine ⟨fun j hj => ?_, fun j hj => ?_, fun j hj => ?_, fun j hj => ?_, fun j hj => ?_, ⟨fun j hj => ?_, ?_⟩, fun j hj => ?_, fun n hn => ?_, ?_, kt, hkt, ek, fun j hj => ?_⟩
  · rw [nA 10 (by decide), nK _ (by omega)]; exact h10 j hj
  · rw [va_up_self]
    by_cases e : j = k
    · subst e; rw [upd_s, show upd K (48 + j) v (48 + j) = v by exact upd_s _ _ _]; exact ⟨rfl, hv⟩
    · rw [upd_n _ _ e, nK _ (by omega)]; exact h11 j hj
  · rw [nA 12 (by decide), nK _ (by omega)]; exact h12 j hj
  · rw [nA 13 (by decide), nK _ (by omega)]; exact h13 j hj
  · rw [nA 14 (by decide), nK _ (by omega)]; exact h14 j hj
  · rw [nA 15 (by decide), nK _ (by omega)]; exact h15 j hj
  · rw [nA 15 (by decide)]; exact h15b
  · rw [nA 16 (by decide), nK _ (by omega)]; exact h16 j hj
  · obtain ⟨e1, e2, k2, hk2, e3, e4⟩ := htb n hn
    have hr := tb_r n hn
    refine ⟨e1, by rw [nK _ (by omega)]; exact e2, k2, hk2, e3, fun j hj => ?_⟩
    rw [nA _ (by omega), nK _ (by omega)]
    exact e4 j hj
  · rw [nK _ (by omega)]; exact h23
  · obtain ⟨t, e1, e2⟩ := ht j hj
    refine ⟨t, e1, ?_⟩
    rw [nK _ (by omega)]
    exact hX _ _ _ _ _ _ (fun i hi => nK _ (by omega)) (fun i hi => nK _ (by omega)) e2
theorem SR_12 (hX : XE X) (h : SR X G I A T K) {k : Nat} (hk : k < 48) {v : Int32} (hv : bt v 0 4) : SR X G I (va_up A 12 (upd (A 12) k v)) T (upd K (96 + k) v) := by
  obtain ⟨h10, h11, h12, h13, h14, ⟨h15, h15b⟩, h16, htb, h23, kt, hkt, ek, ht⟩ := h
  have nK : ∀ j, ¬ j = 96 + k → upd K (96 + k) v j = K j := fun j h => upd_n K v h
  have nA : ∀ a, ¬ a = 12 → va_up A 12 (upd (A 12) k v) a = A a := fun a h => va_up_ne A _ h
  refine ⟨fun j hj => ?_, fun j hj => ?_, fun j hj => ?_, fun j hj => ?_, fun j hj => ?_, ⟨fun j hj => ?_, ?_⟩, fun j hj => ?_, fun n hn => ?_, ?_, kt, hkt, ek, fun j hj => ?_⟩
  · rw [nA 10 (by decide), nK _ (by omega)]; exact h10 j hj
  · rw [nA 11 (by decide), nK _ (by omega)]; exact h11 j hj
  · rw [va_up_self]
    by_cases e : j = k
    · subst e; rw [upd_s, show upd K (96 + j) v (96 + j) = v by exact upd_s _ _ _]; exact ⟨rfl, hv⟩
    · rw [upd_n _ _ e, nK _ (by omega)]; exact h12 j hj
  · rw [nA 13 (by decide), nK _ (by omega)]; exact h13 j hj
  · rw [nA 14 (by decide), nK _ (by omega)]; exact h14 j hj
  · rw [nA 15 (by decide), nK _ (by omega)]; exact h15 j hj
  · rw [nA 15 (by decide)]; exact h15b
  · rw [nA 16 (by decide), nK _ (by omega)]; exact h16 j hj
  · obtain ⟨e1, e2, k2, hk2, e3, e4⟩ := htb n hn
    have hr := tb_r n hn
    refine ⟨e1, by rw [nK _ (by omega)]; exact e2, k2, hk2, e3, fun j hj => ?_⟩
    rw [nA _ (by omega), nK _ (by omega)]
    exact e4 j hj
  · rw [nK _ (by omega)]; exact h23
  · obtain ⟨t, e1, e2⟩ := ht j hj
    refine ⟨t, e1, ?_⟩
    rw [nK _ (by omega)]
    exact hX _ _ _ _ _ _ (fun i hi => nK _ (by omega)) (fun i hi => nK _ (by omega)) e2
theorem SR_13 (hX : XE X) (h : SR X G I A T K) {k : Nat} (hk : k < 6) {v : Int32} (hv : bt v 0 20) : SR X G I (va_up A 13 (upd (A 13) k v)) T (upd K (144 + k) v) := by
  obtain ⟨h10, h11, h12, h13, h14, ⟨h15, h15b⟩, h16, htb, h23, kt, hkt, ek, ht⟩ := h
  have nK : ∀ j, ¬ j = 144 + k → upd K (144 + k) v j = K j := fun j h => upd_n K v h
  have nA : ∀ a, ¬ a = 13 → va_up A 13 (upd (A 13) k v) a = A a := fun a h => va_up_ne A _ h
  refine ⟨fun j hj => ?_, fun j hj => ?_, fun j hj => ?_, fun j hj => ?_, fun j hj => ?_, ⟨fun j hj => ?_, ?_⟩, fun j hj => ?_, fun n hn => ?_, ?_, kt, hkt, ek, fun j hj => ?_⟩
  · rw [nA 10 (by decide), nK _ (by omega)]; exact h10 j hj
  · rw [nA 11 (by decide), nK _ (by omega)]; exact h11 j hj
  · rw [nA 12 (by decide), nK _ (by omega)]; exact h12 j hj
  · rw [va_up_self]
    by_cases e : j = k
    · subst e; rw [upd_s, show upd K (144 + j) v (144 + j) = v by exact upd_s _ _ _]; exact ⟨rfl, hv⟩
    · rw [upd_n _ _ e, nK _ (by omega)]; exact h13 j hj
  · rw [nA 14 (by decide), nK _ (by omega)]; exact h14 j hj
  · rw [nA 15 (by decide), nK _ (by omega)]; exact h15 j hj
  · rw [nA 15 (by decide)]; exact h15b
  · rw [nA 16 (by decide), nK _ (by omega)]; exact h16 j hj
  · obtain ⟨e1, e2, k2, hk2, e3, e4⟩ := htb n hn
    have hr := tb_r n hn
    refine ⟨e1, by rw [nK _ (by omega)]; exact e2, k2, hk2, e3, fun j hj => ?_⟩
    rw [nA _ (by omega), nK _ (by omega)]
    exact e4 j hj
  · rw [nK _ (by omega)]; exact h23
  · obtain ⟨t, e1, e2⟩ := ht j hj
    refine ⟨t, e1, ?_⟩
    rw [nK _ (by omega)]
    exact hX _ _ _ _ _ _ (fun i hi => nK _ (by omega)) (fun i hi => nK _ (by omega)) e2
theorem SR_14 (hX : XE X) (h : SR X G I A T K) {k : Nat} (hk : k < 6) {v : Int32} (hv : bt v 0 100000) : SR X G I (va_up A 14 (upd (A 14) k v)) T (upd K (150 + k) v) := by
  obtain ⟨h10, h11, h12, h13, h14, ⟨h15, h15b⟩, h16, htb, h23, kt, hkt, ek, ht⟩ := h
  have nK : ∀ j, ¬ j = 150 + k → upd K (150 + k) v j = K j := fun j h => upd_n K v h
  have nA : ∀ a, ¬ a = 14 → va_up A 14 (upd (A 14) k v) a = A a := fun a h => va_up_ne A _ h
  refine ⟨fun j hj => ?_, fun j hj => ?_, fun j hj => ?_, fun j hj => ?_, fun j hj => ?_, ⟨fun j hj => ?_, ?_⟩, fun j hj => ?_, fun n hn => ?_, ?_, kt, hkt, ek, fun j hj => ?_⟩
  · rw [nA 10 (by decide), nK _ (by omega)]; exact h10 j hj
  · rw [nA 11 (by decide), nK _ (by omega)]; exact h11 j hj
  · rw [nA 12 (by decide), nK _ (by omega)]; exact h12 j hj
  · rw [nA 13 (by decide), nK _ (by omega)]; exact h13 j hj
  · rw [va_up_self]
    by_cases e : j = k
    · subst e; rw [upd_s, show upd K (150 + j) v (150 + j) = v by exact upd_s _ _ _]; exact ⟨rfl, hv⟩
    · rw [upd_n _ _ e, nK _ (by omega)]; exact h14 j hj
  · rw [nA 15 (by decide), nK _ (by omega)]; exact h15 j hj
  · rw [nA 15 (by decide)]; exact h15b
  · rw [nA 16 (by decide), nK _ (by omega)]; exact h16 j hj
  · obtain ⟨e1, e2, k2, hk2, e3, e4⟩ := htb n hn
    have hr := tb_r n hn
    refine ⟨e1, by rw [nK _ (by omega)]; exact e2, k2, hk2, e3, fun j hj => ?_⟩
    rw [nA _ (by omega), nK _ (by omega)]
    exact e4 j hj
  · rw [nK _ (by omega)]; exact h23
  · obtain ⟨t, e1, e2⟩ := ht j hj
    refine ⟨t, e1, ?_⟩
    rw [nK _ (by omega)]
    exact hX _ _ _ _ _ _ (fun i hi => nK _ (by omega)) (fun i hi => nK _ (by omega)) e2
end P1

section P2
variable {X : Txt → Int32 → (Nat → Int32) → (Nat → Int32) → Prop} {G : Nat → Nat → Int32 → Prop} {I I1 : Nat → Int32} {J J1 : Nat → Int64} {A A1 : Nat → Nat → Int32} {B B1 : Nat → Nat → Int64} {T : Nat → Option Txt} {M : Nat → Option Img}
/-- the answer kept -/
theorem RE_st (hX : XE X) (v : Int32) (h : RE X G I J A B T M I1 J1 A1 B1) : RE X G (upd I 9 v) J A B T M (upd I1 0 v) J1 A1 B1 := by
  obtain ⟨h1, h2, h3, h4, h5, h6, h7, h8⟩ := h
  exact ⟨SR_ext hX (fun k h1 h2 => upd_n I v (by omega)) (fun _ _ _ _ => rfl) (fun _ _ => rfl) h1, h2, h3, h4, h5, h6, rfl, h8⟩
/-- a row of the state changes, and with it what the reference keeps -/
theorem RE_row (h : RE X G I J A B T M I1 J1 A1 B1) (a : Nat) (ha : 10 ≤ a ∧ a < 45) (f K : Nat → Int32) (hs : SR X G I (va_up A a f) T K) : RE X G I J (va_up A a f) B T M I1 J1 (va_up A1 1 K) B1 := by
  obtain ⟨h1, h2, h3, h4, h5, h6, h7, h8⟩ := h
  refine ⟨by rw [va_up_self]; exact hs, h2, ?_, ?_, ?_, h6, h7, h8⟩
  · rw [va_up_ne A f (by omega)]; exact h3
  · rw [va_up_ne A f (by omega)]; exact h4
  · rw [va_up_ne A f (by omega)]; exact h5
/-- both refuse -/
theorem rf_2 (hX : XE X) (h : RE X G I J A B T M I1 J1 A1 B1) (v : Int32) : RB ((sX7_refuse v I J A B).bind fun (r, I) => some (r, I, A)) ((sX8_refuses v I1 J1 A1 B1).bind fun (r, I) => some (r, I, A1)) (fun a b => a.1 = b.1 ∧ RE X G a.2.1 J a.2.2 B T M b.2.1 J1 b.2.2 B1) :=
  rb_some ⟨rfl, RE_st hX v h⟩
/-- both answer -/
theorem ac_2 (hX : XE X) (h : RE X G I J A B T M I1 J1 A1 B1) {v w : Int32} (e : v = w) : RB ((sX7_accept v I J A B).bind fun (r, I) => some (r, I, A)) ((sX8_good w I1 J1 A1 B1).bind fun (r, I) => some (r, I, A1)) (fun a b => a.1 = b.1 ∧ RE X G a.2.1 J a.2.2 B T M b.2.1 J1 b.2.2 B1) :=
  rb_some ⟨e, RE_st hX 0 h⟩
theorem fin_2 {o o' : Option (Int32 × (Nat → Int32) × (Nat → Nat → Int32))} (h : RB o o' (fun a b => a.1 = b.1 ∧ RE X G a.2.1 J a.2.2 B T M b.2.1 J1 b.2.2 B1)) : ∃ (r : Int32) (I2 : Nat → Int32) (A2 : Nat → Nat → Int32) (I3 : Nat → Int32) (A3 : Nat → Nat → Int32), o = some (r, I2, A2) ∧ o' = some (r, I3, A3) ∧ RE X G I2 J A2 B T M I3 J1 A3 B1 := by
  obtain ⟨⟨r, I2, A2⟩, ⟨r', I3, A3⟩, h1, h2, h3, h4⟩ := h
  cases h3
  exact ⟨r, I2, A2, I3, A3, h1, h2, h4⟩
theorem inB_n {k n : Nat} (h : k < n) (hn : n < 2 ^ 31) : inB (nI k) n = true := by
  have h1 : (0 : Int32) ≤ nI k := by rw [i32_le, nI_toInt (by omega)]; show (0 : Int) ≤ _; omega
  have h2 : ix (nI k) < n := by rw [ix, nI_clamp (by omega)]; exact h
  simp [inB, h1, h2]
theorem ix_n {k : Nat} (h : k < 2 ^ 31) : ix (nI k) = k := nI_clamp h
theorem bt_of {x a b : Int32} (h1 : ¬ x < a) (h2 : x ≤ b) : bt x a.toInt b.toInt := by
  rw [i32_lt] at h1
  rw [i32_le] at h2
  exact ⟨by omega, h2⟩
theorem ps_stiff (hX : XE X) : PS_stiff (RE X G) := by
  intro x1 x2 I J A B T M I1 J1 A1 B1 hr
  refine fin_2 ?_
  unfold sX7_stiff sX8_stiff
  refine rl_bind (jt_7 x1) (rr_bind (jt_8 x1) ?_)
  refine rb_if Iff.rfl (fun _ _ => rf_2 hX hr _) (fun h1 _ => ?_)
  refine rr_bind (rg_in _ _ _) ?_
  by_cases h2 : rg x2 1 9 = 0
  · refine rr_t h2 ?_
    by_cases h3 : x2 < 1
    · exact rl_t h3 (rf_2 hX hr _)
    · refine rl_f h3 ?_
      by_cases h4 : x2 ≤ 9
      · exfalso
        unfold rg at h2
        rw [if_neg h3, if_neg (by rw [i32_lt]; rw [i32_le] at h4; omega)] at h2
        cases h2
      · exact rl_f h4 (rf_2 hX hr _)
  · obtain ⟨h3, h4⟩ := rg_1 h2
    obtain ⟨h5, h6⟩ := rg_1 h1
    obtain ⟨k, hk, rfl⟩ := nI_of2 (n := 47) (by decide) h5 h6
    refine rr_f h2 (rl_f h3 (rl_t h4 ?_))
    have e0 : (0 : Int32) + nI k = nI k := by rw [show (0 : Int32) = nI 0 from rfl, nI_add, Nat.zero_add]
    rw [e0]
    refine rl_ck (inB_n (by omega) (by decide)) (rl_gv (rl_ck (inB_n (by omega) (by decide)) (rl_gv ?_)))
    refine rr_ck (inB_n (by omega) (by decide)) (rr_gv (rr_ck (inB_n (by omega) (by decide)) (rr_gv ?_)))
    rw [ix_n (by omega)]
    have hs := SR_10 hX hr.1 (show k < 48 by omega) (bt_of h3 h4)
    rw [Nat.zero_add] at hs
    exact ac_2 hX (RE_row hr 10 (by decide) _ _ hs) (hr.1.1 k (by omega)).1
end P2

