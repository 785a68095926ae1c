def qN (Q : Nat → Int32) (wd : Nat → Nat) (S : Nat) : Nat → Nat → Int32
  | 0 => Q
  | n + 1 => fun j => if j = wd n then (if S.testBit n = true then 4 else Q j) else qN Q wd S n j
section V3
variable {X : Txt → Int32 → (Nat → Int32) → (Nat → Int32) → Prop} {I I' I1 I1' : Nat → Int32} {J J' J1 J1' : Nat → Int64} {A A' A1 A1' : Nat → Nat → Int32} {B B' B1 B1' : Nat → Nat → Int64} {T : Nat → Option Txt} {M : Nat → Option Img} {K : Nat → Int32} {lg : Int} {k t n : Nat} {m c : Int32} {wd : Nat → Nat}
/-- the odds of a year with a set mended -/
def CY (A : Nat → Nat → Int32) (wd : Nat → Nat) (n k S : Nat) : Int := yS (fun w => FW (hS A wd n S) (A 15 3).toInt A w 1) (fun w => FW (hS A wd n S) (A 15 3).toInt A w 0) (oW A) (A 15 5).toInt k
theorem CY_x (h10 : A' 10 = A 10) (h11 : A' 11 = A 11) (h12 : A' 12 = A 12) (h14 : A' 14 = A 14) (h13 : A' 13 = A 13) (h31 : A' 31 = A 31) (h15 : A' 15 = A 15) (S : Nat) : CY A' wd n k S = CY A wd n k S := by
  have hd : (fun j => (hdf A' j).toInt) = (fun j => (hdf A j).toInt) := funext (fun j => by unfold hdf; rw [h11, h12, h15])
  have hh : hS A' wd n S = hS A wd n S := by
    show hN _ _ _ _ _ = hN _ _ _ _ _
    rw [hd, h15]
  have hf : ∀ w c, FW (hS A' wd n S) (A' 15 3).toInt A' w c = FW (hS A wd n S) (A 15 3).toInt A w c := fun w c => by
    unfold FW
    rw [hh, h15, eS_x h10 h14 h13 h31 h15]
  have ho : oW A' = oW A := funext (fun w => by unfold oW; rw [h31])
  unfold CY
  simp only [hf]
  rw [ho, h15]
theorem CY_b (hs : SR X GG I A T K) (ek : I 32 = nI k) (hk : k ≤ 16) (S : Nat) : 0 ≤ CY A wd n k S ∧ CY A wd n k S ≤ 1600000000 := by
  have h5 : bt (A 15 5) 0 100 := (hs.2.2.2.2.2.1.1 5 (by decide)).2
  have := yS_b (a := fun w => FW (hS A wd n S) (A 15 3).toInt A w 1) (b := fun w => FW (hS A wd n S) (A 15 3).toInt A w 0) (o := oW A) h5 k (oW_b hs ek hk)
  unfold CY
  omega
theorem w17 (hX : XE X) (hs : SR X GG I A T K) (ek : I 32 = nI k) (hk : k ≤ 16) (hl : 0 ≤ lg ∧ lg ≤ 10) (hy : RY (fun j => (hdf A j).toInt) lg I A) (e73 : I 73 = nI n) (hn : n ≤ 9) (hwd : ∀ i, i < n → A 72 i = nI (wd i) ∧ wd i < 48) : ∀ (f t : Nat) (I' : Nat → Int32) (J : Nat → Int64) (A' : Nat → Nat → Int32) (B : Nat → Nat → Int64), 6 < t + f → t ≤ 6 → MS n wd I A I' A' → (∀ S, S < 2 ^ n → ∀ q, q < 32 → bb (A' 77 S) q = fA (fun t => fB (hS A wd n S) lg A t (if A 15 4 = 0 then -1431655766 else -1) k q) t) → SP (lX2_weighSets_17 f (nI t) I' J A' B) (fun a => MS n wd I A a.1 a.2.2.1 ∧ ∀ S, S < 2 ^ n → ∀ q, q < 32 → bb (a.2.2.1 77 S) q = fA (fun t => fB (hS A wd n S) lg A t (if A 15 4 = 0 then -1431655766 else -1) k q) 6) := by
  intro f
  induction f with
  | zero => intro t I' J A' B h1 h2; omega
  | succ f ih =>
    intro t I' J A' B h1 h2 hms h77
    rw [lX2_weighSets_17]
    by_cases ht : t = 6
    · subst ht
      exact sp_t (by decide) (sp_some ⟨hms, h77⟩)
    · refine sp_f (by rw [show (6 : Int32) = nI 6 from rfl, nn_le (by decide) (by omega)]; omega) ?_
      obtain ⟨⟨I2, J2, A2, B2⟩, q1, q2, q3⟩ := af_8 (J := J) (B := B) hX hs ek hk hl hy e73 hn hwd (show t < 6 by omega) hms
      refine sp_bind q1 ?_
      refine sp_gv ?_
      rw [nI_1]
      refine ih (t + 1) I2 J2 A2 B2 (by omega) (by omega) q2 (fun S hS q hq => ?_)
      rw [show bb (A2 77 S) q = _ from q3 S hS q hq, h77 S hS q hq]
      rfl
theorem w36 (hX : XE X) (hs : SR X GG I A T K) (ek : I 32 = nI k) (hk : k ≤ 16) (e73 : I 73 = nI n) (hn : n ≤ 9) (hms : MS n wd I A I' A') (h77 : ∀ S, S < 2 ^ n → ∀ q, q < 32 → bb (A' 77 S) q = fA (fun t => fB (hS A wd n S) (A 15 3).toInt A t (if A 15 4 = 0 then -1431655766 else -1) k q) 6) : ∀ (f S : Nat) (A2 : Nat → Nat → Int32), 2 ^ n < S + f → S ≤ 2 ^ n → (∀ b, ¬ b = 79 → A2 b = A' b) → (∀ S', S' < S → (A2 79 S').toInt = CY A wd n k S') → SP (lX2_weighSets_36 f (nI S) I' J A2 B) (fun a => (∀ b, ¬ b = 79 → a b = A' b) ∧ ∀ S', S' < 2 ^ n → (a 79 S').toInt = CY A wd n k S') := by
  have h512 := (sh_n n hn).2
  intro f
  induction f with
  | zero => intro S A2 h1 h2; omega
  | succ f ih =>
    intro S A2 h1 h2 hA h79
    rw [lX2_weighSets_36]
    refine sp_bind (st_7 ((hms.1 73 (by decide)).trans e73) hn) ?_
    by_cases hS2 : S = 2 ^ n
    · exact sp_t ((nn_le (by omega) (by omega)).mpr (by omega)) (sp_some ⟨hA, fun S' hS' => h79 S' (by omega)⟩)
    · refine sp_f (by rw [nn_le (by omega) (by omega)]; omega) ?_
      refine sp_ck (inB_n (by omega) (by decide)) ?_
      rw [ix_n (show S < 2 ^ 31 by omega), nI_1]
      have a15 : A2 15 = A 15 := by rw [hA 15 (by decide)]; exact hms.2.1 15 (by decide) (by decide) (by decide) (by decide) (by decide) (by decide)
      have a31 : A2 31 = A 31 := by rw [hA 31 (by decide)]; exact hms.2.1 31 (by decide) (by decide) (by decide) (by decide) (by decide) (by decide)
      have hs2 : SR X GG I' A2 T K := SR_ext hX (fun q q1 q2 => hms.1 q (by omega)) (fun a k1 k2 j => by rw [hA a (by omega), hms.2.1 a (by omega) (by omega) (by omega) (by omega) (by omega) (by omega)]) (fun _ _ => rfl) hs
      have h5 : bt (A 15 5) 0 100 := (hs.2.2.2.2.2.1.1 5 (by decide)).2
      have hbits : ∀ q, q < 32 → bb (A2 77 S) q = (decide (q < 2 * k) && (bb (if A 15 4 = 0 then -1431655766 else -1) q && FW (hS A wd n S) (A 15 3).toInt A (q / 2) (nI (q % 2)))) := fun q hq => by
        rw [hA 77 (by decide), h77 S (by omega) q hq, fB_a]
      have ha : ∀ w, w < k → bb (A2 77 S) (2 * w + 1) = FW (hS A wd n S) (A 15 3).toInt A w 1 := fun w hw => by
        rw [hbits _ (by omega), decide_eq_true (by omega), show (2 * w + 1) / 2 = w by omega, show (2 * w + 1) % 2 = 1 by omega, Bool.true_and]
        have : bb (if A 15 4 = 0 then -1431655766 else -1) (2 * w + 1) = true := by
          split
          · rw [m_a _ (by omega)]; exact decide_eq_true (by omega)
          · exact m_1 _ (by omega)
        rw [this]
        rfl
      have hb : ∀ w, w < k → (if A2 15 4 = 0 then FW (hS A wd n S) (A 15 3).toInt A w 1 else bb (A2 77 S) (2 * w)) = FW (hS A wd n S) (A 15 3).toInt A w 0 := fun w hw => by
        rw [a15]
        by_cases z : A 15 4 = 0
        · rw [if_pos z, FW_s _ _ z]
        · rw [if_neg z, hbits _ (by omega), decide_eq_true (by omega), show 2 * w / 2 = w by omega, show 2 * w % 2 = 0 by omega, if_neg z, m_1 _ (by omega)]
          rfl
      rw [a15, show A 15 (ix 5) = A 15 5 from rfl]
      obtain ⟨v, y1, y2⟩ := yo_7 (J := J) (B := B) (bits := A2 77 S) (x := A 15 5) (f := (A 15 5).toInt) hs2 ((hms.1 32 (by decide)).trans ek) hk rfl h5 ha hb
      refine sp_bind y1 ?_
      refine sp_ck (inB_n (by omega) (by decide)) ?_
      refine sp_gv ?_
      refine sp_gv ?_
      refine ih (S + 1) _ (by omega) (by omega) (fun b hb => by rw [va_up_ne _ _ hb]; exact hA b hb) (fun S' hS' => ?_)
      rw [va_up_self]
      by_cases z : S' = S
      · subst z
        rw [upd_s, y2]
        unfold CY
        rw [show oW A2 = oW A from funext (fun w => by unfold oW; rw [a31])]
      · rw [upd_n _ _ z]; exact h79 S' (by omega)
theorem ws_7 (hX : XE X) (hs : SR X GG I A T K) (ek : I 32 = nI k) (hk : k ≤ 16) (e73 : I 73 = nI n) (hn : n ≤ 9) (hwd : ∀ i, i < n → A 72 i = nI (wd i) ∧ wd i < 48) : SP (sX2_weighSets I J A B) (fun a => (∀ q, ¬ q = 54 → ¬ q = 57 → a.1 q = I q) ∧ (∀ b, ¬ (50 ≤ b ∧ b < 70) → ¬ b = 77 → ¬ b = 78 → ¬ b = 79 → a.2.2.1 b = A b) ∧ ∀ S, S < 2 ^ n → (a.2.2.1 79 S).toInt = CY A wd n k S) := by
  have h512 := (sh_n n hn).2
  unfold sX2_weighSets
  have hl3 : 0 ≤ (A 15 3).toInt ∧ (A 15 3).toInt ≤ 10 := (hs.2.2.2.2.2.1.1 3 (by decide)).2
  obtain ⟨Ia, Aa, q1, q2, q3, q4⟩ := rd_7 (J := J) (B := B) hs
  refine sp_bind q1 ?_
  refine sp_gvG (fun Ab hAb => ?_)
  have hAbo : ∀ b, ¬ b = 77 → Ab b = Aa b := fun b hb => by rw [hAb]; exact va_up_ne _ _ hb
  have bx : ∀ b, ¬ b = 51 → ¬ b = 55 → ¬ b = 56 → ¬ b = 77 → Ab b = A b := fun b b1 b2 b3 b4 => by rw [hAbo b b4]; exact q3 b b1 b2 b3
  have hsb : SR X GG Ia Ab T K := SR_ext hX (fun q q1' q2' => q2 q (by omega)) (fun a k1 k2 j => by rw [bx a (by omega) (by omega) (by omega) (by omega)]) (fun _ _ => rfl) hs
  have hd : ∀ j, hdf Ab j = hdf A j := fun j => by
    unfold hdf
    rw [bx 11 (by decide) (by decide) (by decide) (by decide), bx 12 (by decide) (by decide) (by decide) (by decide), bx 15 (by decide) (by decide) (by decide) (by decide)]
  have b15 : Ab 15 = A 15 := bx 15 (by decide) (by decide) (by decide) (by decide)
  have hyb : RY (fun j => (hdf Ab j).toInt) (Ab 15 3).toInt Ia Ab := by
    rw [show (fun j => (hdf Ab j).toInt) = (fun j => (hdf A j).toInt) from funext (fun j => by rw [hd]), b15]
    exact RY_x q4 rfl (hAbo 51 (by decide)) (hAbo 55 (by decide)) (hAbo 56 (by decide)) (hAbo 13 (by decide)) (hAbo 15 (by decide))
  have eka : Ia 32 = nI k := (q2 32 (by decide)).trans ek
  have e73a : Ia 73 = nI n := (q2 73 (by decide)).trans e73
  have hwdb : ∀ i, i < n → Ab 72 i = nI (wd i) ∧ wd i < 48 := by rw [bx 72 (by decide) (by decide) (by decide) (by decide)]; exact hwd
  have ms0 : MS n wd Ia Ab Ia Ab := ⟨fun _ _ => rfl, fun _ _ _ _ _ _ _ => rfl, fun j hj _ => hyb.1 j hj⟩
  obtain ⟨⟨I2, J2, A2, B2⟩, r1, r2, r3⟩ := w17 (lg := (Ab 15 3).toInt) hX hsb eka hk (by rw [b15]; exact hl3) hyb e73a hn hwdb FU 0 Ia J Ab B (by unfold FU; omega) (by omega) ms0 (fun S hS q hq => by
    rw [hAb, va_up_self]
    show bb (if S < 512 then 0 else Aa 77 S) q = false
    rw [if_pos (by omega), bb_0])
  have r1 : lX2_weighSets_17 FU 0 Ia J Ab B = some (I2, J2, A2, B2) := r1
  refine sp_bind r1 ?_
  obtain ⟨A3, s1, s2, s3⟩ := w36 (J := J2) (B := B2) hX hsb eka hk e73a hn r2 r3 FU 0 A2 (by unfold FU; omega) (Nat.zero_le _) (fun _ _ => rfl) (fun S' hS' => by omega)
  have s1 : lX2_weighSets_36 FU 0 I2 J2 A2 B2 = some A3 := s1
  refine sp_bind s1 (sp_some ⟨fun q a b => (r2.1 q a).trans (q2 q b), fun b b1 b2 b3 b4 => ?_, fun S hS => ?_⟩)
  · show A3 b = A b
    exact (s2 b b4).trans ((r2.2.1 b (by omega) (by omega) (by omega) (by omega) b2 b3).trans (bx b (by omega) (by omega) (by omega) b2))
  · show (A3 79 S).toInt = _
    rw [s3 S hS]
    exact CY_x (bx 10 (by decide) (by decide) (by decide) (by decide)) (bx 11 (by decide) (by decide) (by decide) (by decide)) (bx 12 (by decide) (by decide) (by decide) (by decide)) (bx 14 (by decide) (by decide) (by decide) (by decide)) (bx 13 (by decide) (by decide) (by decide) (by decide)) (bx 31 (by decide) (by decide) (by decide) (by decide)) b15 S
/-! the reference's prices -/
theorem qh_8 (hs : SR X GG I A T K) (hbo : ∀ i, i < n → ¬ A 11 (wd i) = 0) {S : Nat} : ∀ p, p ≤ n → ∀ j, j < 48 → (if A 11 j = 0 then A 15 0 else A 15 1 + (A 15 0 - A 15 1) * qN (A 12) wd S p j / 4).toInt = hN (A 15 0).toInt (fun j => (hdf A j).toInt) wd S p j := by
  have h0 : bt (A 15 0) 1 100000 := (hs.2.2.2.2.2.1.1 0 (by decide)).2
  have h1 : bt (A 15 1) 1 100000 := (hs.2.2.2.2.2.1.1 1 (by decide)).2
  have hle := hs.2.2.2.2.2.1.2
  rw [i32_le] at hle
  intro p
  induction p with
  | zero => intro _ j _; rfl
  | succ p ih =>
    intro hp j hj
    show (if A 11 j = 0 then A 15 0 else A 15 1 + (A 15 0 - A 15 1) * (if j = wd p then (if S.testBit p = true then 4 else A 12 j) else qN (A 12) wd S p j) / 4).toInt = (if j = wd p then (if S.testBit p = true then (A 15 0).toInt else (hdf A j).toInt) else hN (A 15 0).toInt (fun j => (hdf A j).toInt) wd S p j)
    by_cases z : j = wd p
    · rw [if_pos z, if_pos z]
      by_cases y : S.testBit p = true
      · rw [if_pos y, if_pos y, if_neg (by rw [z]; exact hbo p (by omega))]
        have hsub : (A 15 0 - A 15 1).toInt = (A 15 0).toInt - (A 15 1).toInt := i_sub rfl rfl (by omega)
        have hmul : ((A 15 0 - A 15 1) * 4).toInt = ((A 15 0).toInt - (A 15 1).toInt) * 4 := i_mul hsub rfl (by omega)
        have hdiv : ((A 15 0 - A 15 1) * 4 / 4).toInt = (A 15 0).toInt - (A 15 1).toInt := by
          rw [Int32.toInt_div_of_ne_right _ _ (by decide), hmul, show (4 : Int32).toInt = 4 from rfl, Int.mul_tdiv_cancel _ (by decide)]
        rw [i_add rfl hdiv (by omega)]
        omega
      · rw [if_neg y, if_neg y]
        rfl
    · rw [if_neg z, if_neg z]
      exact ih (by omega) j hj
theorem p18 (e41 : I1 41 = nI n) (hn : n ≤ 9) (h40 : ∀ i, i < n → A1 40 i = nI (wd i) ∧ wd i < 48) {S : Nat} {Q : Nat → Int32} (h39 : ∀ j, j < 48 → A1 39 (48 + j) = Q j) : ∀ (f p : Nat) (A' : Nat → Nat → Int32), n < p + f → p ≤ n → (∀ a, ¬ a = 1 → A' a = A1 a) → (∀ i, ¬ (96 ≤ i ∧ i < 144) → A' 1 i = A1 1 i) → (∀ j, j < 48 → ((∃ i, i < p ∧ j = wd i) ∨ ∀ i, i < n → ¬ j = wd i) → A' 1 (96 + j) = qN Q wd S p j) → SP (lX8_prices_18 f (nI S) (nI p) I1 J1 A' B1) (fun A2 => (∀ a, ¬ a = 1 → A2 a = A1 a) ∧ (∀ i, ¬ (96 ≤ i ∧ i < 144) → A2 1 i = A1 1 i) ∧ ∀ j, j < 48 → A2 1 (96 + j) = qN Q wd S n j) := by
  intro f
  induction f with
  | zero => intro p A' h1 h2; omega
  | succ f ih =>
    intro p A' h1 h2 hA hK hq
    rw [lX8_prices_18, e41]
    by_cases hp : p = n
    · subst hp
      refine sp_t ((nn_le (by omega) (by omega)).mpr (Nat.le_refl _)) (sp_some ⟨hA, hK, fun j hj => hq j hj ?_⟩)
      by_cases z : ∃ i, i < p ∧ j = wd i
      · exact Or.inl z
      · exact Or.inr (fun i hi y => z ⟨i, hi, y⟩)
    · refine sp_f (by rw [nn_le (by omega) (by omega)]; omega) ?_
      obtain ⟨w1, w2⟩ := h40 p (by omega)
      have w1' : A' 40 p = nI (wd p) := by rw [hA 40 (by decide)]; exact w1
      refine sp_ck (inB_n (by omega) (by decide)) ?_
      rw [ix_n (show p < 2 ^ 31 by omega), w1', show (96 : Int32) + nI (wd p) = nI (96 + wd p) from nI_add 96 _, show (48 : Int32) + nI (wd p) = nI (48 + wd p) from nI_add 48 _, ix_n (show 96 + wd p < 2 ^ 31 by omega), ix_n (show 48 + wd p < 2 ^ 31 by omega), nI_1]
      have next : ∀ v : Int32, v = (if S.testBit p = true then 4 else Q (wd p)) → SP (lX8_prices_18 f (nI S) (nI (p + 1)) I1 J1 (va_up A' 1 (upd (A' 1) (96 + wd p) v)) B1) (fun A2 => (∀ a, ¬ a = 1 → A2 a = A1 a) ∧ (∀ i, ¬ (96 ≤ i ∧ i < 144) → A2 1 i = A1 1 i) ∧ ∀ j, j < 48 → A2 1 (96 + j) = qN Q wd S n j) := by
        intro v hv
        refine ih (p + 1) _ (by omega) (by omega) (fun a ha => by rw [va_up_ne _ _ ha]; exact hA a ha) (fun i hi => by rw [va_up_self, upd_n _ _ (by omega)]; exact hK i hi) (fun j hj hd => ?_)
        rw [va_up_self]
        show _ = (if j = wd p then (if S.testBit p = true then 4 else Q j) else qN Q wd S p j)
        by_cases z : j = wd p
        · rw [if_pos z, z, upd_s]; exact hv
        · rw [upd_n _ _ (by omega), if_neg z]
          refine hq j hj ?_
          rcases hd with ⟨i, i1, i2⟩ | hd
          · refine Or.inl ⟨i, ?_, i2⟩
            have : ¬ i = p := fun q => z (by rw [i2, q])
            omega
          · exact Or.inr hd
      rw [r1_v _ (show p < 32 by omega), bb_n _ (show p < 32 by omega)]
      cases hb : S.testBit p with
      | true =>
        refine sp_t rfl ?_
        refine sp_ck (inB_n (by omega) (by decide)) ?_
        refine sp_gv ?_
        refine sp_gv ?_
        exact next 4 (by rw [hb, if_pos rfl])
      | false =>
        refine sp_f (by decide) ?_
        refine sp_ck (inB_n (by omega) (by decide)) ?_
        refine sp_ck (inB_n (by omega) (by decide)) ?_
        refine sp_ck (inB_n (by omega) (by decide)) ?_
        refine sp_gv ?_
        refine sp_gv ?_
        refine next _ ?_
        rw [hb, if_neg (by decide), hA 39 (by decide), h39 _ w2]
theorem p6 (hs : SR X GG I A T (A1 1)) (ek : I 32 = nI k) (hk : k ≤ 16) (hbo : ∀ i, i < n → ¬ A 11 (wd i) = 0) (e41 : I1 41 = nI n) (hn : n ≤ 9) (h40 : ∀ i, i < n → A1 40 i = nI (wd i) ∧ wd i < 48) (h39 : ∀ j, j < 48 → A1 39 (48 + j) = A 12 j) : ∀ (f S : Nat) (I' : Nat → Int32) (J' : Nat → Int64) (A' : Nat → Nat → Int32) (B' : Nat → Nat → Int64), 2 ^ n < S + f → S ≤ 2 ^ n → (∀ q, ¬ q = 15 → ¬ q = 16 → I' q = I1 q) → (∀ a, ¬ a = 1 → ¬ a = 4 → ¬ a = 14 → A' a = A1 a) → (∀ i, ¬ (96 ≤ i ∧ i < 144) → A' 1 i = A1 1 i) → (∀ j, j < 48 → (∀ i, i < n → ¬ j = wd i) → A' 1 (96 + j) = A 12 j) → (∀ S', S' < S → B' 42 S' = lI (CY A wd n k S')) → SP (lX8_prices_6 f (nI S) I' J' A' B') (fun a => (∀ q, ¬ q = 15 → ¬ q = 16 → a.1 q = I1 q) ∧ (∀ b, ¬ b = 1 → ¬ b = 4 → ¬ b = 14 → a.2.2.1 b = A1 b) ∧ (∀ i, ¬ (96 ≤ i ∧ i < 144) → a.2.2.1 1 i = A1 1 i) ∧ ∀ S', S' < 2 ^ n → a.2.2.2 42 S' = lI (CY A wd n k S')) := by
  have h512 := (sh_n n hn).2
  intro f
  induction f with
  | zero => intro S I' J' A' B' h1 h2; omega
  | succ f ih =>
    intro S I' J' A' B' h1 h2 hI hA hK hU h42
    rw [lX8_prices_6, hI 41 (by decide) (by decide), e41, (sh_n n hn).1]
    by_cases hS2 : S = 2 ^ n
    · exact sp_t ((nn_le (by omega) (by omega)).mpr (by omega)) (sp_some ⟨hI, hA, hK, fun S' hS' => h42 S' (by omega)⟩)
    · refine sp_f (by rw [nn_le (by omega) (by omega)]; omega) ?_
      obtain ⟨A2, q1, q2, q3, q4⟩ := p18 (I1 := I') (J1 := J') (B1 := B') (A1 := A') (S := S) (Q := A 12) ((hI 41 (by decide) (by decide)).trans e41) hn (by rw [hA 40 (by decide) (by decide) (by decide)]; exact h40) (by rw [hA 39 (by decide) (by decide) (by decide)]; exact h39) FU 0 A' (by unfold FU; omega) (by omega) (fun _ _ => rfl) (fun _ _ => rfl) (fun j hj hd => by
        rcases hd with ⟨i, i1, -⟩ | hd
        · omega
        · exact hU j hj hd)
      have q1 : lX8_prices_18 FU (nI S) 0 I' J' A' B' = some A2 := q1
      refine sp_bind q1 ?_
      have k2 : ∀ i, ¬ (96 ≤ i ∧ i < 144) → A2 1 i = A1 1 i := fun i hi => by rw [q3 i hi]; exact hK i hi
      have hl3 : 0 ≤ (A 15 3).toInt ∧ (A 15 3).toInt ≤ 10 := (hs.2.2.2.2.2.1.1 3 (by decide)).2
      have e0 : A2 1 156 = A 15 0 := by rw [k2 156 (by omega)]; exact (hs.2.2.2.2.2.1.1 0 (by decide)).1.symm
      have e1 : A2 1 157 = A 15 1 := by rw [k2 157 (by omega)]; exact (hs.2.2.2.2.2.1.1 1 (by decide)).1.symm
      have hrs : ∀ (c : Int32) w, w < k → RS (eS (hS A wd n S) (A 15 3).toInt A w c) w c A2 := fun c w hw => by
        refine rs_of hs ek hk hw (hS_b hs S) hl3 (fun i hi _ => k2 i (by omega)) (fun j hj => ⟨_, qh_8 hs hbo n (Nat.le_refl _) j hj, fun I J B => ?_⟩) ?_
        · exact hold_9 hj (by rw [k2 _ (by omega)]; exact (hs.2.1 j hj).1.symm) (q4 j hj) e0 e1
        · rw [k2 159 (by omega), ← (hs.2.2.2.2.2.1.1 3 (by decide)).1]
      obtain ⟨hkn1, -⟩ : A1 1 1633 = nI k ∧ True := ⟨(hs.2.2.2.2.2.2.2.1 0 (by decide)).2.1.symm.trans ek, trivial⟩
      have ek2 : A2 1 1633 = nI k := by rw [k2 1633 (by omega)]; exact hkn1
      unfold sX8_year
      obtain ⟨⟨p, I3, J3, A3, B3⟩, s1, s2, s3, s4, s5⟩ := fy_8 (I1 := I') (J1 := J') (B1 := B') hk (hrs 1) ek2
      have h31 : A3 1 = A2 1 := s4 1 (by decide) (by decide)
      obtain ⟨⟨pp, I4, J4, A4, B4⟩, t1, t2, t3, t4, t5⟩ := fy_8 (I1 := I3) (J1 := J3) (B1 := B3) (A1 := A3) hk (fun w hw => RS_x (hrs 0 w hw) h31) (by rw [h31]; exact ek2)
      have h41 : A4 1 = A2 1 := (t4 1 (by decide) (by decide)).trans h31
      have h5 : bt (A 15 5) 0 100 := (hs.2.2.2.2.2.1.1 5 (by decide)).2
      have tm : sX8_term 5 I4 J4 A4 B4 = some (A 15 5) := by
        have : A4 1 161 = A 15 5 := by rw [h41, k2 161 (by omega)]; exact (hs.2.2.2.2.2.1.1 5 (by decide)).1.symm
        rw [← this]
        exact term_8 (k := 5) (by decide)
      have z1 : sX8_yearBy p pp (A 15 5) I4 J4 A4 B4 = some (lI (CY A wd n k S)) := by
        refine yb_8 hk (by rw [h41]; exact ek2) (fun w hw => ?_) (fun w hw => ?_) (fun w hw => ?_) rfl h5
        · rw [h41, k2 _ (by omega)]
          unfold oW
          rw [(wnd hs ek hk hw).2.2.1]
        · rw [show bb p w = _ from s2 w (by omega), decide_eq_true hw]; rfl
        · rw [show bb pp w = _ from t2 w (by omega), decide_eq_true hw]; rfl
      have hyear : ((sX8_fallsBy 1 I' J' A2 B').bind fun (r_3, I, J, A, B) => (sX8_fallsBy 0 I J A B).bind fun (r_8, I, J, A, B) => (sX8_term 5 I J A B).bind fun r_13 => (sX8_yearBy r_3 r_8 r_13 I J A B).bind fun r_16 => some (r_16, I, J, A, B)) = some (lI (CY A wd n k S), I4, J4, A4, B4) := by
        rw [s1]
        dsimp only [Option.bind_some]
        rw [t1]
        dsimp only [Option.bind_some]
        rw [tm]
        dsimp only [Option.bind_some]
        rw [z1]
        rfl
      refine sp_bind hyear ?_
      refine sp_ck (inB_n (by omega) (by decide)) ?_
      refine sp_gv ?_
      refine sp_gv ?_
      rw [ix_n (show S < 2 ^ 31 by omega), nI_1]
      refine ih (S + 1) I4 J4 A4 _ (by omega) (by omega) (fun q a b => (t3 q a b).trans ((s3 q a b).trans (hI q a b))) (fun b b1 b2 b3 => (t4 b b2 b3).trans ((s4 b b2 b3).trans ((q2 b b1).trans (hA b b1 b2 b3)))) (fun i hi => by rw [h41]; exact k2 i hi) (fun j hj hu => ?_) (fun S' hS' => ?_)
      · rw [h41, q4 j hj]
        have : ∀ m, (∀ i, i < m → ¬ j = wd i) → qN (A 12) wd S m j = A 12 j := by
          intro m
          induction m with
          | zero => intro _; rfl
          | succ m ihm =>
            intro hm
            show (if j = wd m then _ else qN (A 12) wd S m j) = _
            rw [if_neg (hm m (by omega)), ihm (fun i hi => hm i (by omega))]
        exact this n hu
      · rw [va_up_self]
        by_cases z : S' = S
        · subst z; rw [ul_s]
        · rw [ul_n z, show B4 42 = B' 42 from (t5 42 (by decide) (by decide)).trans (s5 42 (by decide) (by decide))]
          exact h42 S' (by omega)
theorem pr_8 (hs : SR X GG I A T (A1 1)) (ek : I 32 = nI k) (hk : k ≤ 16) (hbo : ∀ i, i < n → ¬ A 11 (wd i) = 0) (e41 : I1 41 = nI n) (hn : n ≤ 9) (h40 : ∀ i, i < n → A1 40 i = nI (wd i) ∧ wd i < 48) : SP (sX8_prices I1 J1 A1 B1) (fun a => (∀ q, ¬ q = 15 → ¬ q = 16 → a.1 q = I1 q) ∧ (∀ b, ¬ b = 4 → ¬ b = 14 → ¬ b = 39 → a.2.2.1 b = A1 b) ∧ ∀ S', S' < 2 ^ n → a.2.2.2 42 S' = lI (CY A wd n k S')) := by
  have h512 := (sh_n n hn).2
  unfold sX8_prices
  obtain ⟨A2, s1, s2, s3⟩ := sa_8 (I1 := I1) (J1 := J1) (A1 := A1) (B1 := B1)
  refine sp_bind s1 ?_
  have h21 : A2 1 = A1 1 := s2 1 (by decide)
  obtain ⟨⟨I3, J3, A3, B3⟩, q1, q2, q3, q4, q5⟩ := p6 (A1 := A2) (I1 := I1) (wd := wd) (by rw [h21]; exact hs) ek hk hbo e41 hn (by rw [s2 40 (by decide)]; exact h40) (fun j hj => by rw [s3 _ (by omega), show 48 + (48 + j) = 96 + j by omega]; exact (hs.2.2.1 j hj).1.symm) FU 0 I1 J1 A2 B1 (by unfold FU; omega) (Nat.zero_le _) (fun _ _ _ => rfl) (fun _ _ _ _ => rfl) (fun _ _ => rfl) (fun j hj _ => by rw [h21]; exact (hs.2.2.1 j hj).1.symm) (fun S' hS' => by omega)
  have q1 : lX8_prices_6 FU 0 I1 J1 A2 B1 = some (I3, J3, A3, B3) := q1
  refine sp_bind q1 ?_
  obtain ⟨A4, w1, w2, w3⟩ := re_8 (I1 := I3) (J1 := J3) (A1 := A3) (B1 := B3)
  refine sp_bind w1 (sp_some ⟨q2, fun b b1 b2 b3 => ?_, q5⟩)
  show A4 b = A1 b
  have q3 : ∀ b, ¬ b = 1 → ¬ b = 4 → ¬ b = 14 → A3 b = A2 b := q3
  have q4 : ∀ i, ¬ (96 ≤ i ∧ i < 144) → A3 1 i = A2 1 i := q4
  by_cases z : b = 1
  · subst z
    funext i
    rw [w3 i]
    by_cases y : 48 ≤ i ∧ i < 144
    · rw [if_pos y, q3 39 (by decide) (by decide) (by decide), s3 _ (by omega), show 48 + (i - 48) = i by omega]
    · rw [if_neg y, q4 i (by omega), h21]
  · rw [w2 b z, q3 b z b1 b2]; exact s2 b b3
end V3
