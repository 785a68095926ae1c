section V5
variable {X : Txt → Int32 → (Nat → Int32) → (Nat → Int32) → Prop} {I I' I1 I1' : Nat → Int32} {J J' J1 J1' : Nat → Int64} {A A' A1 A1' : Nat → Nat → Int32} {B B' B1 B1' : Nat → Nat → Int64} {T : Nat → Option Txt} {M : Nat → Option Img} {K : Nat → Int32} {lg : Int} {k t n S : Nat} {v c : Nat → Int}
theorem fs_8 (hn : n ≤ 9) (hS : S < 2 ^ n) {x3 : Int32} {u : Nat} (hu : FL v S n u) (hB : ∀ w, w < n → S.testBit w = false → B1 43 (S ||| 2 ^ w) = lI (v (S ||| 2 ^ w)) ∧ (v (S ||| 2 ^ w)).natAbs < 9223372036854775808) (hd : B1 43 S - B1 42 S = lI (v (S ||| 2 ^ u))) : lX8_best_146 FU (nI S) x3 0 I1 J1 A1 B1 = some (nI u) := by
  have h512 := (sh_n n hn).2
  have hun := hu.1
  have hl : ∀ f w, u < w + f → w ≤ u → lX8_best_146 f (nI S) x3 (nI w) I1 J1 A1 B1 = some (nI u) := by
    intro f
    induction f with
    | zero => intro w h1 h2; omega
    | succ f ih =>
      intro w h1 h2
      rw [lX8_best_146, r1_v _ (show w < 32 by omega), bb_n _ (show w < 32 by omega)]
      dsimp only [gv]
      rw [nI_1]
      cases hb : S.testBit w with
      | true =>
        rw [if_pos (show (if true = true then (1 : Int32) else 0) = 1 from rfl)]
        have : ¬ w = u := fun q => by rw [q, hu.2.1] at hb; cases hb
        exact ih (w + 1) (by omega) (by omega)
      | false =>
        have l1 := or_lt (w := w) hS (show w < n by omega)
        obtain ⟨b1, b2⟩ := hB w (by omega) hb
        obtain ⟨d1, d2⟩ := hB u hun hu.2.1
        rw [if_neg (show ¬ (if false = true then (1 : Int32) else 0) = 1 by decide), or_n (show w < 32 by omega), ix_n (show S ||| 2 ^ w < 2 ^ 31 by omega), ix_n (show S < 2 ^ 31 by omega)]
        simp only [ck, if_pos (inB_n (show S ||| 2 ^ w < 512 by omega) (by decide)), if_pos (inB_n (show S < 512 by omega) (by decide))]
        rw [hd, b1]
        by_cases z : w = u
        · subst z
          rw [if_pos ((lg_cmp_eq _ _).mpr rfl)]
        · have := hu.2.2.2 w (by omega) hb
          rw [if_neg (fun q => by rw [lg_cmp_eq, l_eq b2 d2] at q; omega)]
          exact ih (w + 1) (by omega) (by omega)
  exact hl FU 0 (by unfold FU; omega) (by omega)
theorem kr_2 (e73 : I 73 = nI n) (e75 : I 75 = nI n) (e41 : I1 41 = nI n) (hn : n ≤ 9) (hv : PV c n 0 v) (hB : ∀ S, S < 2 ^ n → B 76 S = lI (v S) ∧ B1 43 S = lI (v S)) (h42 : ∀ S, S < 2 ^ n → B1 42 S = lI (c S)) : ∀ (f p S : Nat) (A A1 : Nat → Nat → Int32), n < p + f → p ≤ n → S < 2 ^ n → ct S n = p → RB (lX2_keepRow_12 f (nI S) (nI p) I J A B) (lX8_best_135 f (nI S) (nI p) I1 J1 A1 B1) (fun a b => (∀ q, ¬ q = 74 → a q = A q) ∧ (∀ q, ¬ q = 44 → b q = A1 q) ∧ (∀ j, j < p → a 74 j = A 74 j ∧ b 44 j = A1 44 j) ∧ ∀ j, p ≤ j → j < n → a 74 j = b 44 j) := by
  have h512 := (sh_n n hn).2
  intro f
  induction f with
  | zero => intro p S A A1 h1 h2; omega
  | succ f ih =>
    intro p S A A1 h1 h2 hS hct
    rw [lX2_keepRow_12, lX8_best_135, e75, e41]
    by_cases hp : p = n
    · have hle : nI n ≤ nI p := by rw [hp]; exact (nn_le (by omega) (by omega)).mpr (Nat.le_refl _)
      exact rl_t hle (rr_t hle (rb_some ⟨fun _ _ => rfl, fun _ _ => rfl, fun _ _ => ⟨rfl, rfl⟩, fun j j1 j2 => by omega⟩))
    · have hle : ¬ nI n ≤ nI p := by rw [nn_le (by omega) (by omega)]; omega
      refine rl_f hle (rr_f hle ?_)
      have hne : ¬ S = 2 ^ n - 1 := fun q => by
        rw [q, ct_all n (Nat.le_refl _)] at hct
        omega
      have hval : ∀ w, w < n → S.testBit w = false → (B 76 (S ||| 2 ^ w) = lI (v (S ||| 2 ^ w)) ∧ B1 43 (S ||| 2 ^ w) = lI (v (S ||| 2 ^ w))) ∧ (v (S ||| 2 ^ w)).natAbs < 9223372036854775808 := fun w hw ho => by
        have g2 := or_lt hS hw
        have g3 := hv.2.1 (S ||| 2 ^ w) (Nat.zero_le _) g2
        refine ⟨hB _ g2, ?_⟩
        have : ((2 ^ n - (S ||| 2 ^ w) : Nat) : Int) ≤ 512 := by omega
        omega
      obtain ⟨u, n1, n2⟩ := nw_7 (I := I) (J := J) (A := A) (v := v) e73 hn hS (op_w hS hne) (fun w hw ho => ⟨(hval w hw ho).1.1, (hval w hw ho).2⟩)
      have hun := n2.1
      obtain ⟨u', a1, a2, a3, a4⟩ := hv.2.2 S (Nat.zero_le _) (by omega)
      have euv : v (S ||| 2 ^ u') = v (S ||| 2 ^ u) := by
        have b1 := a4 u hun n2.2.1
        have b2 := n2.2.2.1 u' a1 a2
        omega
      have hd : B1 43 S - B1 42 S = lI (v (S ||| 2 ^ u)) := by
        rw [(hB S hS).2, h42 S hS, ← l_sub, a3, euv]
        congr 1
        omega
      have n3 := fs_8 (I1 := I1) (J1 := J1) (A1 := A1) (x3 := nI p) hn hS n2 (fun w hw ho => ⟨(hval w hw ho).1.2, (hval w hw ho).2⟩) hd
      refine rl_bind n1 (rr_bind n3 ?_)
      refine rl_ck (inB_n (by omega) (by decide)) (rl_gv (rl_ck (inB_n (by omega) (by decide)) ?_))
      refine rr_ck (inB_n (by omega) (by decide)) (rr_gv ?_)
      rw [ix_n (show p < 2 ^ 31 by omega), va_up_self, upd_s, or_n (show u < 32 by omega), nI_1]
      refine rl_gv (rl_gv (rr_gv (rr_gv ?_)))
      refine rb_mono (ih (p + 1) (S ||| 2 ^ u) _ _ (by omega) (by omega) (or_lt hS hun) (by rw [ct_or n2.2.1, hct, if_pos hun])) (fun a b h => ?_)
      obtain ⟨i1, i2, i3, i4⟩ := h
      refine ⟨fun q hq => by rw [i1 q hq, va_up_ne _ _ hq], fun q hq => by rw [i2 q hq, va_up_ne _ _ hq], fun j hj => ?_, fun j j1 j2 => ?_⟩
      · obtain ⟨k1, k2⟩ := i3 j (by omega)
        rw [k1, k2, va_up_self, va_up_self, upd_n _ _ (by omega), upd_n _ _ (by omega)]
        exact ⟨rfl, rfl⟩
      · by_cases z : j = p
        · subst z
          obtain ⟨k1, k2⟩ := i3 j (by omega)
          rw [k1, k2, va_up_self, va_up_self, upd_s, upd_s]
        · exact i4 j (by omega) j2
/-- wishes on both sides -/
theorem wsh (hr : RE X GG I J A B T M I1 J1 A1 B1) : ∃ (n : Nat) (wd : Nat → Nat), n ≤ 9 ∧ I 73 = nI n ∧ I1 41 = nI n ∧ ∀ i, i < n → A 72 i = nI (wd i) ∧ A1 40 i = nI (wd i) ∧ wd i < 48 := by
  obtain ⟨e, n, hn, en, hc⟩ := hr.2.2.2.1
  refine ⟨n, fun i => ix (A 72 i), hn, en, e.symm.trans en, fun i hi => ?_⟩
  obtain ⟨h1, h2⟩ := hc i hi
  obtain ⟨j, hj, ej⟩ := nI_of (x := A 72 i) (by rw [i32_lt, show (0 : Int32).toInt = 0 from rfl]; omega)
  have hj48 : j < 48 := by rw [ej, bt, nI_toInt hj] at h2; omega
  show A 72 i = nI (ix (A 72 i)) ∧ A1 40 i = nI (ix (A 72 i)) ∧ ix (A 72 i) < 48
  rw [← h1, ej, ix_n hj]
  exact ⟨rfl, rfl, hj48⟩
theorem RE_mn {n : Nat} (hX : XE X) (hr : RE X GG I J A B T M I1 J1 A1 B1) (hI : ∀ q, ¬ q = 54 → ¬ q = 57 → ¬ q = 75 → I' q = I q) (hA : ∀ b, ¬ (50 ≤ b ∧ b < 70) → ¬ b = 74 → ¬ b = 77 → ¬ b = 78 → ¬ b = 79 → A' b = A b) (hI1 : ∀ q, ¬ q = 15 → ¬ q = 16 → ¬ q = 45 → I1' q = I1 q) (hA1 : ∀ b, ¬ b = 4 → ¬ b = 14 → ¬ b = 39 → ¬ b = 44 → A1' b = A1 b) (hk : ∃ k, k ≤ 9 ∧ I' 75 = nI k ∧ (I1' 45 = nI k ∨ (k = 0 ∧ I1' 45 = -1)) ∧ ∀ j, j < k → A' 74 j = A1' 44 j) : RE X GG I' J' A' B' T M I1' J1' A1' B1' := by
  obtain ⟨h1, h2, h3, h4, h5, h6, h7, h8⟩ := hr
  refine ⟨SR_ext hX (fun k k1 k2 => hI k (by omega) (by omega) (by omega)) (fun a k1 k2 j => by rw [hA a (by omega) (by omega) (by omega) (by omega) (by omega)]) (fun j _ => by rw [hA1 1 (by decide) (by decide) (by decide) (by decide)]) h1, fun k hk => ?_, ?_, ?_, hk, ?_, ?_, ?_⟩
  · rw [hA1 3 (by decide) (by decide) (by decide) (by decide), hA1 2 (by decide) (by decide) (by decide) (by decide)]; exact h2 k hk
  · rw [hI 7 (by decide) (by decide) (by decide), hI1 20 (by decide) (by decide) (by decide), hA 6 (by decide) (by decide) (by decide) (by decide) (by decide), hA1 18 (by decide) (by decide) (by decide) (by decide)]; exact h3
  · rw [hI 73 (by decide) (by decide) (by decide), hI1 41 (by decide) (by decide) (by decide), hA 72 (by decide) (by decide) (by decide) (by decide) (by decide), hA1 40 (by decide) (by decide) (by decide) (by decide)]; exact h4
  · rw [hI 8 (by decide) (by decide) (by decide), hI1 21 (by decide) (by decide) (by decide)]; exact h6
  · rw [hI 9 (by decide) (by decide) (by decide), hI1 0 (by decide) (by decide) (by decide)]; exact h7
  · rw [hA1 17 (by decide) (by decide) (by decide) (by decide)]; exact h8
theorem ps_best (hX : XE X) : PS_best (RE X GG) := by
  intro I J A B T M I1 J1 A1 B1 hr
  refine fin_5 ?_
  obtain ⟨k, hk, ek, e1⟩ := wk_2 hr.1
  obtain ⟨n, wd, hn, e73, e41, hw⟩ := wsh hr
  have h512 := (sh_n n hn).2
  have hpos : 1 ≤ 2 ^ n := Nat.one_le_two_pow
  unfold sX7_best sX8_best
  obtain ⟨r, r1, r2, r3⟩ := cb_2 (J := J) (B := B) (J1 := J1) (B1 := B1) (wd := wd) hr.1 e73 e41 hn (fun i hi => ⟨(hw i hi).1, (hw i hi).2.2⟩) (fun i hi => (hw i hi).2.1)
  refine rl_bind r1 (rr_bind r2 ?_)
  rcases r3 with rfl | ⟨rfl, hn0, hbo⟩
  · exact rl_t rfl (rr_t rfl (rb_some ⟨rfl, hr⟩))
  · refine rl_f (by decide) (rr_f (by decide) ?_)
    obtain ⟨⟨I2, J2, A2, B2⟩, s1, s2, s3, s4⟩ := ws_7 (J := J) (B := B) hX hr.1 ek hk e73 hn (fun i hi => ⟨(hw i hi).1, (hw i hi).2.2⟩)
    obtain ⟨⟨I3, J3, A3, B3⟩, t1, t2, t3, t4⟩ := pr_8 (J1 := J1) (B1 := B1) hr.1 ek hk hbo e41 hn (fun i hi => ⟨(hw i hi).2.1, (hw i hi).2.2⟩)
    refine rl_bind s1 (rr_bind t1 ?_)
    have s2 : ∀ q, ¬ q = 54 → ¬ q = 57 → I2 q = I q := s2
    have s3 : ∀ b, ¬ (50 ≤ b ∧ b < 70) → ¬ b = 77 → ¬ b = 78 → ¬ b = 79 → A2 b = A b := s3
    have t2 : ∀ q, ¬ q = 15 → ¬ q = 16 → I3 q = I1 q := t2
    have t3 : ∀ b, ¬ b = 4 → ¬ b = 14 → ¬ b = 39 → A3 b = A1 b := t3
    have s4 : ∀ S, S < 2 ^ n → (A2 79 S).toInt = CY A wd n k S := s4
    have t4 : ∀ S, S < 2 ^ n → B3 42 S = lI (CY A wd n k S) := t4
    have hcc : ∀ S, S < 2 ^ n → (A2 79 S).toInt = CY A wd n k S ∧ 0 ≤ CY A wd n k S ∧ CY A wd n k S ≤ 1600000000 := fun S hS => ⟨s4 S hS, CY_b hr.1 ek hk S⟩
    generalize CY A wd n k = cc at s4 t4 hcc
    have e73' : I2 73 = nI n := (s2 73 (by decide) (by decide)).trans e73
    have e41' : I3 41 = nI n := (t2 41 (by decide) (by decide)).trans e41
    have p2 : 2 ≤ 2 ^ n := by
      have := Nat.pow_le_pow_right (show 0 < 2 by decide) hn0
      omega
    have ea : nI (2 ^ n) - (1 : Int32) = nI (2 ^ n - 1) := by
      obtain ⟨z, hz⟩ : ∃ z, 2 ^ n = z + 1 := ⟨2 ^ n - 1, by omega⟩
      rw [hz]
      exact nI_pred z
    have eb : nI (2 ^ n - 1) - (1 : Int32) = dw (2 ^ n - 1) := by
      obtain ⟨z, hz⟩ : ∃ z, 2 ^ n - 1 = z + 1 := ⟨2 ^ n - 2, by omega⟩
      rw [hz]
      exact nI_pred z
    -- both weigh the rows
    obtain ⟨B4, B5, w1, w2, v, pv, hB, h42⟩ := dp_2 (I := I2) (J := J2) (A := A2) (I1 := I3) (J1 := J3) (A1 := A3) (c := cc) e73' e41' hn hcc (2 ^ n - 1) FU (va_up B2 76 (vp_updL (B2 76) (2 ^ n - 1) 0)) (va_up B3 43 (vp_updL (B3 43) (2 ^ n - 1) 0)) (fun _ => 0) (by unfold FU; omega) (Nat.le_refl _) ⟨rfl, fun S s1 s2 => ⟨Int.le_refl _, by show (0 : Int) ≤ _; omega⟩, fun S s1 s2 => by omega⟩ (fun S s1 s2 => by
      have : S = 2 ^ n - 1 := by omega
      subst this
      rw [va_up_self, va_up_self, ul_s, ul_s]
      exact ⟨l_z, l_z⟩) (fun S hS => by rw [va_up_ne _ _ (by decide)]; exact t4 S hS)
    have hwr : sX2_weighRows I2 J2 A2 B2 = some B4 := by
      unfold sX2_weighRows
      rw [st_7 e73' hn]
      dsimp only [gv, Option.bind_some]
      rw [ea, ck, if_pos (inB_n (by omega) (by decide)), ix_n (show 2 ^ n - 1 < 2 ^ 31 by omega), eb, w1]
      rfl
    refine rl_bind hwr ?_
    dsimp only
    rw [show I3 41 = nI n from e41', (sh_n n hn).1, ea]
    refine rr_gv (rr_ck (inB_n (by omega) (by decide)) ?_)
    rw [ix_n (show 2 ^ n - 1 < 2 ^ 31 by omega), eb]
    refine rr_gv (rr_gv (rr_bind w2 (rr_gv ?_)))
    have e73k : upd I2 75 (nI n) 73 = nI n := (upd_n _ _ (by decide)).trans e73'
    have e41k : upd I3 45 (nI n) 41 = nI n := (upd_n _ _ (by decide)).trans e41'
    obtain ⟨A4, A5, k1, k2, k3, k4, -, k6⟩ := kr_2 (I := upd I2 75 (nI n)) (J := J2) (I1 := upd I3 45 (nI n)) (J1 := J3) e73k (upd_s _ _ _) e41k hn pv hB h42 FU 0 0 A2 A3 (by unfold FU; omega) (by omega) (by omega) (by
      have : ∀ m, ct 0 m = 0 := by
        intro m
        induction m with
        | zero => rfl
        | succ m ih => rw [ct, ih, Nat.zero_testBit, if_neg (by decide)]
      exact this n)
    have k1 : lX2_keepRow_12 FU 0 0 (upd I2 75 (nI n)) J2 A2 B4 = some A4 := k1
    have k2 : lX8_best_135 FU 0 0 (upd I3 45 (nI n)) J3 A3 B5 = some A5 := k2
    have hkr : sX2_keepRow I2 J2 A2 B4 = some (upd I2 75 (nI n), A4) := by
      unfold sX2_keepRow
      rw [e73']
      dsimp only [gv]
      rw [k1]
      rfl
    refine rl_bind hkr (rr_bind k2 (rb_some ⟨?_, ?_⟩))
    · show B4 76 0 = B5 43 0
      rw [(hB 0 (by omega)).1, (hB 0 (by omega)).2]
    · show RE X GG (upd I2 75 (nI n)) J2 A4 B4 T M (upd I3 45 (nI n)) J3 A5 B5
      refine RE_mn (n := n) hX hr (fun q a b c => by rw [upd_n _ _ c]; exact s2 q a b) (fun b b1 b2 b3 b4 b5 => ?_) (fun q a b c => by rw [upd_n _ _ c]; exact t2 q a b) (fun b b1 b2 b3 b4 => ?_) ⟨n, hn, upd_s _ _ _, Or.inl (upd_s _ _ _), fun j hj => k6 j (Nat.zero_le _) hj⟩
      · show A4 b = A b
        rw [k3 b b2]; exact s3 b b1 b3 b4 b5
      · show A5 b = A1 b
        rw [k4 b b4]; exact t3 b b1 b2 b3
theorem lo_1 (e73 : I 73 = nI n) (e41 : I1 41 = nI n) (hn : n ≤ 9) (hc : ∀ S, S < 2 ^ n → (A 79 S).toInt = c S ∧ 0 ≤ c S ∧ c S ≤ 1600000000) (h42 : ∀ S, S < 2 ^ n → B1 42 S = lI (c S)) {x : Int64} {p : Nat} (hp : p < 512) : ∀ (f S : Nat) (y : Int32) (z : Int64), 2 ^ n < S + f → S ≤ 2 ^ n → ((y = -1 ∧ z = -1) ∨ (0 ≤ y.toInt ∧ y.toInt ≤ 1600000000 ∧ z = lI y.toInt)) → RB (lX2_leastSum_18 f x (nI p) y (nI S) I J A B) (lX8_low_35 f x (nI p) z (nI S) I1 J1 A1 B1) (fun a b => a.toInt64 = b) := by
  have h512 := (sh_n n hn).2
  intro f
  induction f with
  | zero => intro S y z h1 h2; omega
  | succ f ih =>
    intro S y z h1 h2 hyz
    rw [lX2_leastSum_18, lX8_low_35, e41, (sh_n n hn).1]
    refine rl_bind (st_7 e73 hn) ?_
    refine rb_if Iff.rfl (fun _ _ => rb_some ?_) (fun g _ => ?_)
    · rcases hyz with ⟨rfl, rfl⟩ | ⟨h3, h4, rfl⟩
      · decide +kernel
      · exact l_32 rfl
    · rw [nn_le (by omega) (by omega)] at g
      refine rl_bind (bc_n S (by omega)) (rr_bind (on_n (by omega)) ?_)
      rw [nI_1, ix_n (show S < 2 ^ 31 by omega), h42 S (by omega)]
      obtain ⟨c1, c2, c3⟩ := hc S (by omega)
      have ins := inB_n (show S < 512 by omega) (by decide)
      have setS : RB (lX2_leastSum_18 f x (nI p) (A 79 S) (nI (S + 1)) I J A B) (lX8_low_35 f x (nI p) (lI (c S)) (nI (S + 1)) I1 J1 A1 B1) (fun a b => a.toInt64 = b) := ih (S + 1) _ _ (by omega) (by omega) (Or.inr ⟨by omega, by omega, by rw [c1]⟩)
      refine rb_if Iff.rfl (fun _ _ => ?_) (fun _ _ => rl_gv (rr_gv (ih (S + 1) y z (by omega) (by omega) hyz)))
      rcases hyz with ⟨rfl, rfl⟩ | ⟨h3, h4, rfl⟩
      · refine rl_t rfl (rr_t (by decide +kernel) (rl_ck ins (rl_gv (rl_gv (rr_ck ins (rr_gv (rr_gv setS)))))))
      · refine rl_f (fun q => by rw [q] at h3; exact absurd h3 (by decide)) (rr_f (by rw [lg_cmp_lt, l_z, l_lt (by omega) (by decide)]; omega) (rl_ck ins (rr_ck ins ?_)))
        by_cases hle : y ≤ A 79 S
        · refine rl_t hle (rr_t ?_ (rl_gv (rr_gv (ih (S + 1) y _ (by omega) (by omega) (Or.inr ⟨h3, h4, rfl⟩)))))
          rw [i32_le, c1] at hle
          rw [lg_cmp_ge, l_le (by omega) (by omega)]
          exact hle
        · refine rl_f hle (rr_f ?_ (rl_ck ins (rl_gv (rl_gv (rr_ck ins (rr_gv (rr_gv setS)))))))
          rw [i32_le, c1] at hle
          rw [lg_cmp_ge, l_le (by omega) (by omega)]
          exact hle
theorem ps_low (hX : XE X) : PS_low (RE X GG) := by
  intro I J A B T M I1 J1 A1 B1 hr
  refine fin_5 ?_
  obtain ⟨k, hk, ek, e1⟩ := wk_2 hr.1
  obtain ⟨n, wd, hn, e73, e41, hw⟩ := wsh hr
  have h512 := (sh_n n hn).2
  unfold sX7_low sX8_low
  obtain ⟨r, r1, r2, r3⟩ := cb_2 (J := J) (B := B) (J1 := J1) (B1 := B1) (wd := wd) hr.1 e73 e41 hn (fun i hi => ⟨(hw i hi).1, (hw i hi).2.2⟩) (fun i hi => (hw i hi).2.1)
  refine rl_bind r1 (rr_bind r2 ?_)
  rcases r3 with rfl | ⟨rfl, hn0, hbo⟩
  · exact rl_t rfl (rr_t rfl (rb_some ⟨rfl, hr⟩))
  · refine rl_f (by decide) (rr_f (by decide) ?_)
    obtain ⟨⟨I2, J2, A2, B2⟩, s1, s2, s3, s4⟩ := ws_7 (J := J) (B := B) hX hr.1 ek hk e73 hn (fun i hi => ⟨(hw i hi).1, (hw i hi).2.2⟩)
    obtain ⟨⟨I3, J3, A3, B3⟩, t1, t2, t3, t4⟩ := pr_8 (J1 := J1) (B1 := B1) hr.1 ek hk hbo e41 hn (fun i hi => ⟨(hw i hi).2.1, (hw i hi).2.2⟩)
    refine rl_bind s1 (rr_bind t1 ?_)
    have s2 : ∀ q, ¬ q = 54 → ¬ q = 57 → I2 q = I q := s2
    have s3 : ∀ b, ¬ (50 ≤ b ∧ b < 70) → ¬ b = 77 → ¬ b = 78 → ¬ b = 79 → A2 b = A b := s3
    have t2 : ∀ q, ¬ q = 15 → ¬ q = 16 → I3 q = I1 q := t2
    have t3 : ∀ b, ¬ b = 4 → ¬ b = 14 → ¬ b = 39 → A3 b = A1 b := t3
    have s4 : ∀ S, S < 2 ^ n → (A2 79 S).toInt = CY A wd n k S := s4
    have t4 : ∀ S, S < 2 ^ n → B3 42 S = lI (CY A wd n k S) := t4
    have hcc : ∀ S, S < 2 ^ n → (A2 79 S).toInt = CY A wd n k S ∧ 0 ≤ CY A wd n k S ∧ CY A wd n k S ≤ 1600000000 := fun S hS => ⟨s4 S hS, CY_b hr.1 ek hk S⟩
    generalize CY A wd n k = cc at s4 t4 hcc
    have e73' : I2 73 = nI n := (s2 73 (by decide) (by decide)).trans e73
    have e41' : I3 41 = nI n := (t2 41 (by decide) (by decide)).trans e41
    have hre : RE X GG I2 J2 A2 B2 T M I3 J3 A3 B3 := by
      refine RE_mn (n := n) hX hr (fun q a b _ => s2 q a b) (fun b b1 _ b3 b4 b5 => s3 b b1 b3 b4 b5) (fun q a b _ => t2 q a b) (fun b b1 b2 b3 _ => t3 b b1 b2 b3) ?_
      rw [s2 75 (by decide) (by decide), t2 45 (by decide) (by decide), s3 74 (by decide) (by decide) (by decide) (by decide), t3 44 (by decide) (by decide) (by decide)]
      exact hr.2.2.2.2.1
    have hl : ∀ (f p : Nat) (x : Int64), n < p + f → p ≤ n → RB (lX2_leastSum_4 f x (nI p) I2 J2 A2 B2) (lX8_low_19 f x (nI p) I3 J3 A3 B3) (fun a b => a = b) := by
      intro f
      induction f with
      | zero => intro p x h1 h2; omega
      | succ f ih =>
        intro p x h1 h2
        rw [lX2_leastSum_4, lX8_low_19, e73', e41']
        refine rb_if Iff.rfl (fun _ _ => rb_some rfl) (fun g _ => ?_)
        rw [nn_le (by omega) (by omega)] at g
        refine rb_bind (lo_1 (c := cc) e73' e41' hn hcc t4 (show p < 512 by omega) FU 0 (-1) (-1) (by unfold FU; omega) (Nat.zero_le _) (Or.inl ⟨rfl, rfl⟩)) (fun a b h => ?_)
        refine rl_gv (rl_gv (rr_gv (rr_gv ?_)))
        rw [h, nI_1]
        exact ih (p + 1) _ (by omega) (by omega)
    obtain ⟨a, b, g1, g2, rfl⟩ := hl FU 0 0 (by unfold FU; omega) (by omega)
    have g1 : lX2_leastSum_4 FU 0 0 I2 J2 A2 B2 = some a := g1
    have g2 : lX8_low_19 FU 0 0 I3 J3 A3 B3 = some a := g2
    refine rl_bind (a := a) (by unfold sX2_leastSum; rw [g1]; rfl) (rr_bind g2 (rb_some ⟨rfl, hre⟩))
end V5
