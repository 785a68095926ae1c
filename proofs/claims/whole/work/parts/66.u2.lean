theorem a1_v (y : Int32) : y &&& 1 = if bb y 0 = true then 1 else 0 := by
  cases hb : bb y 0 with
  | false => rw [if_neg (by decide)]; exact (b1_0 y).mpr hb
  | true =>
    rw [if_pos rfl]
    refine bb_ext (fun i hi => ?_)
    rw [bb_and, bb_1 i hi]
    by_cases e : i = 0
    · subst e; rw [hb]; rfl
    · rw [decide_eq_false e, Bool.and_false]
theorem u1_v (x : Int32) {i : Nat} (hi : i < 32) : ushr x (nI i) &&& 1 = if bb x i = true then 1 else 0 := by
  rw [a1_v]
  have := bb_ushr i hi x 0
  rw [Nat.add_zero] at this
  rw [this]
theorem r1_v (x : Int32) {i : Nat} (hi : i < 32) : (x >>> (nI i &&& 31)) &&& 1 = if bb x i = true then 1 else 0 := by
  rw [a1_v]
  have := bb_sshr i hi x (i := 0) (by decide)
  rw [Nat.add_zero, if_pos hi] at this
  rw [this]
theorem m_a : ∀ i, i < 32 → bb (-1431655766) i = decide (i % 2 = 1) := by decide +kernel
theorem m_1 : ∀ i, i < 32 → bb (-1) i = true := by decide +kernel
theorem fB_a (h : Nat → Int) (lg : Int) (A : Nat → Nat → Int32) (m : Int32) (k q : Nat) : fA (fun t => fB h lg A t m k q) 6 = (decide (q < 2 * k) && (bb m q && FW h lg A (q / 2) (nI (q % 2)))) := by
  unfold fB FW
  cases decide (q < 2 * k) with
  | false => rfl
  | true =>
    cases bb m q with
    | false => rfl
    | true => exact fA_x 6 (fun t _ => rfl)
section U2
variable {X : Txt → Int32 → (Nat → Int32) → (Nat → Int32) → Prop} {I I' I1 I1' : Nat → Int32} {J J' J1 J1' : Nat → Int64} {A A' A1 A1' : Nat → Nat → Int32} {B B' B1 B1' : Nat → Nat → Int64} {T : Nat → Option Txt} {M : Nat → Option Img} {K : Nat → Int32} {h : Nat → Int} {lg : Int} {k t : Nat} {m c : Int32}
theorem af_7 : SP (sX1_allFalls I J A B) (fun x => ∀ q, q < 32 → bb x q = fA (fun t => bb (A 63 t) q) 6) := by
  have hl : ∀ (n t : Nat) (x : Int32), 6 < t + n → t ≤ 6 → (∀ q, q < 32 → bb x q = fA (fun t => bb (A 63 t) q) t) → SP (lX1_allFalls_4 n x (nI t) I J A B) (fun x => ∀ q, q < 32 → bb x q = fA (fun t => bb (A 63 t) q) 6) := by
    intro n
    induction n with
    | zero => intro t x h1 h2; omega
    | succ n ih =>
      intro t x h1 h2 hx
      rw [lX1_allFalls_4]
      by_cases ht : t = 6
      · subst ht
        exact sp_t (by decide) (sp_some hx)
      · refine sp_f (by rw [show (6 : Int32) = nI 6 from rfl, nn_le (by decide) (by omega)]; omega) ?_
        refine sp_ck (inB_n (by omega) (by decide)) ?_
        refine sp_gv ?_
        refine sp_gv ?_
        rw [nI_1, ix_n (by omega)]
        refine ih (t + 1) _ (by omega) (by omega) (fun q hq => ?_)
        rw [bb_or, hx q hq]
        rfl
  obtain ⟨x, h1, h2⟩ := hl FU 0 0 (by unfold FU; omega) (by omega) (fun q _ => bb_0 q)
  unfold sX1_allFalls
  exact sp_bind h1 (sp_some h2)
theorem fl_7 (hX : XE X) (hs : SR X GG I A T K) (ek : I 32 = nI k) (hk : k ≤ 16) (hh : ∀ j, j < 48 → 0 ≤ h j ∧ h j ≤ 100000) (hl : 0 ≤ lg ∧ lg ≤ 10) (hy : RY h lg I A) : ∀ (n t : Nat) (I' : Nat → Int32) (J : Nat → Int64) (A' : Nat → Nat → Int32) (B : Nat → Nat → Int64), 6 < t + n → t ≤ 6 → (∀ q, ¬ q = 54 → I' q = I q) → (∀ b, ¬ b = 60 → ¬ b = 61 → ¬ b = 63 → ¬ b = 64 → A' b = A b) → (∀ u, u < t → ∀ q, q < 32 → bb (A' 63 u) q = fB h lg A u m k q) → SP (lX1_fallsOfAll_2 n m (nI t) I' J A' B) (fun a => (∀ q, ¬ q = 54 → a.1 q = I q) ∧ (∀ b, ¬ b = 60 → ¬ b = 61 → ¬ b = 63 → ¬ b = 64 → a.2.2.1 b = A b) ∧ ∀ u, u < 6 → ∀ q, q < 32 → bb (a.2.2.1 63 u) q = fB h lg A u m k q) := by
  intro n
  induction n with
  | zero => intro t I' J A' B h1 h2; omega
  | succ n ih =>
    intro t I' J A' B h1 h2 hI hA hb
    rw [lX1_fallsOfAll_2]
    by_cases ht : t = 6
    · subst ht
      exact sp_t (by decide) (sp_some ⟨hI, hA, hb⟩)
    · refine sp_f (by rw [show (6 : Int32) = nI 6 from rfl, nn_le (by decide) (by omega)]; omega) ?_
      have hs' : SR X GG I' A' T K := SR_ext hX (fun q q1 q2 => hI q (by omega)) (fun a k1 k2 j => by rw [hA a (by omega) (by omega) (by omega) (by omega)]) (fun _ _ => rfl) hs
      have hy' : RY h lg I' A' := RY_x hy (hI 57 (by decide)) (hA 51 (by decide) (by decide) (by decide) (by decide)) (hA 55 (by decide) (by decide) (by decide) (by decide)) (hA 56 (by decide) (by decide) (by decide) (by decide)) (hA 13 (by decide) (by decide) (by decide) (by decide)) (hA 15 (by decide) (by decide) (by decide) (by decide))
      obtain ⟨⟨x, I2, J2, A2, B2⟩, q1, q2, q3, q4⟩ := fo_7 (J := J) (B := B) hX hs' ((hI 32 (by decide)).trans ek) hk hh hl hy' (show t < 6 by omega) m
      refine sp_bind q1 ?_
      refine sp_ck (inB_n (by omega) (by decide)) ?_
      refine sp_gv ?_
      refine sp_gv ?_
      rw [nI_1, ix_n (by omega)]
      have fe : ∀ u q, fB h lg A' u m k q = fB h lg A u m k q := fun u q => by
        unfold fB
        rw [eS_x (hA 10 (by decide) (by decide) (by decide) (by decide)) (hA 14 (by decide) (by decide) (by decide) (by decide)) (hA 13 (by decide) (by decide) (by decide) (by decide)) (hA 31 (by decide) (by decide) (by decide) (by decide)) (hA 15 (by decide) (by decide) (by decide) (by decide))]
      refine ih (t + 1) I2 J2 _ B2 (by omega) (by omega) (fun q hq => (q3 q hq).trans (hI q hq)) (fun b b1 b2 b3 b4 => ?_) (fun u hu q hq => ?_)
      · rw [va_up_ne _ _ b3]
        exact (q4 b b1 b2 b4).trans (hA b b1 b2 b3 b4)
      · rw [va_up_self]
        by_cases z : u = t
        · subst z
          rw [upd_s, ← fe]
          exact q2 q hq
        · rw [upd_n _ _ z, show A2 63 = A' 63 from q4 63 (by decide) (by decide) (by decide)]
          exact hb u (by omega) q hq
theorem fa_7 (hX : XE X) (hs : SR X GG I A T K) (ek : I 32 = nI k) (hk : k ≤ 16) (hh : ∀ j, j < 48 → 0 ≤ h j ∧ h j ≤ 100000) (hl : 0 ≤ lg ∧ lg ≤ 10) (hy : RY h lg I A) (m : Int32) : SP (sX1_fallsOfAll m I J A B) (fun a => (∀ q, q < 32 → bb a.1 q = (decide (q < 2 * k) && (bb m q && FW h lg A (q / 2) (nI (q % 2))))) ∧ (∀ q, ¬ q = 54 → a.2.1 q = I q) ∧ (∀ b, ¬ b = 60 → ¬ b = 61 → ¬ b = 63 → ¬ b = 64 → a.2.2.2.1 b = A b) ∧ ∀ u, u < 6 → ∀ q, q < 32 → bb (a.2.2.2.1 63 u) q = fB h lg A u m k q) := by
  unfold sX1_fallsOfAll
  obtain ⟨⟨I2, J2, A2, B2⟩, q1, q2, q3, q4⟩ := fl_7 (m := m) hX hs ek hk hh hl hy FU 0 I J A B (by unfold FU; omega) (by omega) (fun _ _ => rfl) (fun _ _ _ _ _ => rfl) (fun u hu => by omega)
  refine sp_bind q1 ?_
  obtain ⟨x, r1, r2⟩ := af_7 (I := I2) (J := J2) (A := A2) (B := B2)
  refine sp_bind r1 (sp_some ⟨fun q hq => ?_, q2, q3, q4⟩)
  show bb x q = _
  rw [r2 q hq, ← fB_a]
  exact fA_x 6 (fun t ht => q4 t ht q hq)
theorem fb_8 (hk : k ≤ 16) (hrs : ∀ w, w < k → RS (eS h lg A w c) w c A1) (e1 : A1 1 1633 = nI k) : ∀ (n w : Nat) (x : Int32) (I' : Nat → Int32) (J : Nat → Int64) (A' : Nat → Nat → Int32) (B : Nat → Nat → Int64), k < w + n → w ≤ k → (∀ q, ¬ q = 15 → ¬ q = 16 → I' q = I1 q) → (∀ b, ¬ b = 4 → ¬ b = 14 → A' b = A1 b) → (∀ b, ¬ b = 5 → ¬ b = 6 → B b = B1 b) → (∀ q, q < 32 → bb x q = (decide (q < w) && FW h lg A q c)) → SP (lX8_fallsBy_4 n c x (nI w) I' J A' B) (fun a => (∀ q, q < 32 → bb a.1 q = (decide (q < k) && FW h lg A q c)) ∧ (∀ q, ¬ q = 15 → ¬ q = 16 → a.2.1 q = I1 q) ∧ (∀ b, ¬ b = 4 → ¬ b = 14 → a.2.2.2.1 b = A1 b) ∧ ∀ b, ¬ b = 5 → ¬ b = 6 → a.2.2.2.2 b = B1 b) := by
  intro n
  induction n with
  | zero => intro w x I' J A' B h1 h2; omega
  | succ n ih =>
    intro w x I' J A' B h1 h2 hI hA hB hx
    rw [lX8_fallsBy_4, hA 1 (by decide) (by decide), show A1 1 (ix 1633) = nI k from e1]
    by_cases hw : w = k
    · subst hw
      exact sp_t ((nn_le (by omega) (by omega)).mpr (Nat.le_refl _)) (sp_some ⟨hx, hI, hA, hB⟩)
    · refine sp_f (by rw [nn_le (by omega) (by omega)]; omega) ?_
      obtain ⟨⟨I2, J2, A2, B2⟩, q1, q2, -, -, q3⟩ := bw_8 (I := I') (J := J) (B := B) (RS_x (hrs w (by omega)) (hA 1 (by decide) (by decide)))
      refine sp_bind q1 ?_
      rw [nI_1]
      have q3 : I2 16 = fI (runG (eS h lg A w c) FU (fun _ => false) []).2 := q3
      have hfw := FW_g h lg A w c
      have fI2 : ∀ q, ¬ q = 15 → ¬ q = 16 → I2 q = I1 q := fun q a b => (q2.1 q a b).trans (hI q a b)
      have fA2 : ∀ b, ¬ b = 4 → ¬ b = 14 → A2 b = A1 b := fun b a c => (q2.2.2.1 b a c).trans (hA b a c)
      have fB2 : ∀ b, ¬ b = 5 → ¬ b = 6 → B2 b = B1 b := fun b a c => (q2.2.2.2 b a c).trans (hB b a c)
      cases hg : (runG (eS h lg A w c) FU (fun _ => false) []).2 with
      | none =>
        have hf : FW h lg A w c = false := by
          cases z : FW h lg A w c with
          | false => rfl
          | true => exact absurd hg (hfw.mpr z)
        rw [hg] at q3
        refine sp_t q3 (sp_gv ?_)
        refine ih (w + 1) x I2 J2 A2 B2 (by omega) (by omega) fI2 fA2 fB2 (fun q hq => ?_)
        rw [hx q hq]
        by_cases z : q = w
        · subst z; rw [hf, Bool.and_false, Bool.and_false]
        · rw [decide_eq_decide.mpr (show q < w ↔ q < w + 1 by omega)]
      | some u =>
        have hu := runG_t _ _ _ u hg
        have hf : FW h lg A w c = true := hfw.mp (by rw [hg]; simp)
        rw [hg] at q3
        refine sp_f (by rw [q3]; exact nI_m1 (by omega)) (sp_gv (sp_gv ?_))
        refine ih (w + 1) _ I2 J2 A2 B2 (by omega) (by omega) fI2 fA2 fB2 (fun q hq => ?_)
        rw [bb_or, hx q hq, s1_i (by omega) hq]
        by_cases z : q = w
        · subst z; rw [hf, decide_eq_true rfl, Bool.or_true, decide_eq_true (Nat.lt_succ_self q)]; rfl
        · rw [decide_eq_false z, Bool.or_false, decide_eq_decide.mpr (show q < w ↔ q < w + 1 by omega)]
theorem fy_8 (hk : k ≤ 16) (hrs : ∀ w, w < k → RS (eS h lg A w c) w c A1) (e1 : A1 1 1633 = nI k) : SP (sX8_fallsBy c I1 J1 A1 B1) (fun a => (∀ q, q < 32 → bb a.1 q = (decide (q < k) && FW h lg A q c)) ∧ (∀ q, ¬ q = 15 → ¬ q = 16 → a.2.1 q = I1 q) ∧ (∀ b, ¬ b = 4 → ¬ b = 14 → a.2.2.2.1 b = A1 b) ∧ ∀ b, ¬ b = 5 → ¬ b = 6 → a.2.2.2.2 b = B1 b) := by
  unfold sX8_fallsBy
  obtain ⟨⟨x, I2, J2, A2, B2⟩, q1, q2⟩ := fb_8 hk hrs e1 FU 0 0 I1 J1 A1 B1 (by unfold FU; omega) (by omega) (fun _ _ _ => rfl) (fun _ _ _ => rfl) (fun _ _ _ => rfl) (fun q _ => by rw [bb_0]; rfl)
  exact sp_bind q1 (sp_some q2)
end U2
/-! the odds of a year -/
def sO (f : Nat → Bool) (o : Nat → Int) : Nat → Int
  | 0 => 0
  | n + 1 => sO f o n + (if f n = true then o n else 0)
def yS (a b : Nat → Bool) (o : Nat → Int) (f : Int) : Nat → Int
  | 0 => 0
  | n + 1 => yS a b o f n + o n * ((if a n = true then 1 else 0) * (100 - f) + (if b n = true then 1 else 0) * f)
theorem id_y (x y o f p q : Int) : x * (100 - f) + y * f + o * (p * (100 - f) + q * f) = (x + p * o) * (100 - f) + (y + q * o) * f := by grind
theorem yS_e (a b : Nat → Bool) (o : Nat → Int) (f : Int) : ∀ n, yS a b o f n = sO a o n * (100 - f) + sO b o n * f := by
  intro n
  induction n with
  | zero => show (0 : Int) = 0 * (100 - f) + 0 * f; rw [Int.zero_mul, Int.zero_mul]; rfl
  | succ n ih =>
    rw [yS, sO, sO, ih, id_y]
    have : ∀ (c : Bool), (if c = true then (1 : Int) else 0) * o n = if c = true then o n else 0 := fun c => by
      cases c
      · rw [if_neg (by decide), if_neg (by decide), Int.zero_mul]
      · rw [if_pos rfl, if_pos rfl, Int.one_mul]
    rw [this, this]
theorem yS_b {a b : Nat → Bool} {o : Nat → Int} {f : Int} (hf : 0 ≤ f ∧ f ≤ 100) : ∀ n, (∀ w, w < n → 1 ≤ o w ∧ o w ≤ 1000000) → 0 ≤ yS a b o f n ∧ yS a b o f n ≤ 100000000 * (n : Int) := by
  intro n
  induction n with
  | zero => intro _; exact ⟨Int.le_refl _, Int.le_refl _⟩
  | succ n ih =>
    intro ho
    have h1 := ih (fun w hw => ho w (by omega))
    have h2 := ho n (by omega)
    have h3 : 0 ≤ ((if a n = true then 1 else 0) * (100 - f) + (if b n = true then 1 else 0) * f) ∧ ((if a n = true then 1 else 0) * (100 - f) + (if b n = true then 1 else 0) * f) ≤ 100 := by
      cases a n <;> cases b n <;> simp <;> omega
    have h4 : 0 ≤ o n * ((if a n = true then 1 else 0) * (100 - f) + (if b n = true then 1 else 0) * f) := Int.mul_nonneg (by omega) h3.1
    have h5 : (o n * ((if a n = true then 1 else 0) * (100 - f) + (if b n = true then 1 else 0) * f)).natAbs ≤ 1000000 * 100 := ab_mul (by omega) (by omega)
    rw [yS]
    have : ((n + 1 : Nat) : Int) = (n : Int) + 1 := rfl
    rw [this]
    omega
