/-! mending: sets of wishes as numbers -/
theorem bb_n (S : Nat) {w : Nat} (hw : w < 32) : bb (nI S) w = S.testBit w := by
  show (BitVec.ofNat 32 S).getLsbD w = _
  rw [BitVec.getLsbD_ofNat, decide_eq_true hw, Bool.true_and]
theorem or_n {S w : Nat} (hw : w < 32) : nI S ||| ((1 : Int32) <<< (nI w &&& 31)) = nI (S ||| 2 ^ w) := by
  refine bb_ext (fun i hi => ?_)
  rw [bb_or, s1_i hw hi, bb_n _ hi, bb_n _ hi, Nat.testBit_or, Nat.testBit_two_pow]
  congr 1
  exact decide_eq_decide.mpr ⟨fun h => h.symm, fun h => h.symm⟩
theorem and_n (S H : Nat) : nI S &&& nI H = nI (S &&& H) := by
  refine bb_ext (fun i hi => ?_)
  rw [bb_and, bb_n _ hi, bb_n _ hi, bb_n _ hi, Nat.testBit_and]
theorem sh_n : ∀ n, n ≤ 9 → (1 : Int32) <<< (nI n &&& 31) = nI (2 ^ n) ∧ 2 ^ n ≤ 512 := by
  intro n hn
  exact (by decide +kernel : ∀ n, n < 10 → (1 : Int32) <<< (nI n &&& 31) = nI (2 ^ n) ∧ 2 ^ n ≤ 512) n (by omega)
theorem or_lt {S n w : Nat} (hS : S < 2 ^ n) (hw : w < n) : S ||| 2 ^ w < 2 ^ n := Nat.or_lt_two_pow hS (Nat.pow_lt_pow_right (by decide) hw)
theorem or_gt {S w : Nat} (h : S.testBit w = false) : S < S ||| 2 ^ w := by
  refine Nat.lt_of_le_of_ne Nat.left_le_or (fun q => ?_)
  have h2 := congrArg (fun x => Nat.testBit x w) q
  have h2 : S.testBit w = (S ||| 2 ^ w).testBit w := h2
  rw [Nat.testBit_or, Nat.testBit_two_pow, decide_eq_true rfl, Bool.or_true, h] at h2
  cases h2
theorem op_w {S n : Nat} (hS : S < 2 ^ n) (h : ¬ S = 2 ^ n - 1) : ∃ w, w < n ∧ S.testBit w = false := by
  refine Decidable.byContradiction (fun hc => h (Nat.eq_of_testBit_eq (fun i => ?_)))
  rw [Nat.testBit_two_pow_sub_one]
  by_cases hi : i < n
  · rw [decide_eq_true hi]
    cases hb : S.testBit i with
    | true => rfl
    | false => exact absurd ⟨i, hi, hb⟩ hc
  · rw [decide_eq_false hi]
    exact Nat.testBit_lt_two_pow (Nat.lt_of_lt_of_le hS (Nat.pow_le_pow_right (by decide) (by omega)))
/-- what joints hold with a set mended -/
def hN (W : Int) (hb : Nat → Int) (wd : Nat → Nat) (S : Nat) : Nat → Nat → Int
  | 0 => hb
  | n + 1 => fun j => if j = wd n then (if S.testBit n = true then W else hb j) else hN W hb wd S n j
theorem hN_0 (W : Int) (hb : Nat → Int) (wd : Nat → Nat) : ∀ n j, hN W hb wd 0 n j = hb j := by
  intro n
  induction n with
  | zero => intro j; rfl
  | succ n ih =>
    intro j
    show (if j = wd n then (if (0 : Nat).testBit n = true then W else hb j) else hN W hb wd 0 n j) = hb j
    rw [Nat.zero_testBit, if_neg (show ¬ false = true by decide), ih j]
    split <;> rfl
theorem hN_u {W : Int} {hb : Nat → Int} {wd : Nat → Nat} {S : Nat} : ∀ {n j : Nat}, (∀ i, i < n → ¬ j = wd i) → hN W hb wd S n j = hb j := by
  intro n
  induction n with
  | zero => intro j _; rfl
  | succ n ih =>
    intro j h
    show (if j = wd n then _ else hN W hb wd S n j) = hb j
    rw [if_neg (h n (by omega)), ih (fun i hi => h i (by omega))]
theorem hN_x {W : Int} {hb : Nat → Int} {wd : Nat → Nat} {S S' t : Nat} : ∀ {n : Nat}, (∀ i, i < n → wd i / 8 = t → S.testBit i = S'.testBit i) → ∀ j, j / 8 = t → hN W hb wd S n j = hN W hb wd S' n j := by
  intro n
  induction n with
  | zero => intro _ j _; rfl
  | succ n ih =>
    intro h j hj
    show (if j = wd n then (if S.testBit n = true then W else hb j) else hN W hb wd S n j) = (if j = wd n then (if S'.testBit n = true then W else hb j) else hN W hb wd S' n j)
    by_cases z : j = wd n
    · rw [if_pos z, if_pos z, h n (by omega) (by rw [← z]; exact hj)]
    · rw [if_neg z, if_neg z, ih (fun i hi => h i (by omega)) j hj]
theorem hN_g {W : Int} {hb : Nat → Int} {wd : Nat → Nat} {S : Nat} : ∀ {n j : Nat}, hb j ≤ W → hb j ≤ hN W hb wd S n j ∧ hN W hb wd S n j ≤ W := by
  intro n
  induction n with
  | zero => intro j h; exact ⟨Int.le_refl _, h⟩
  | succ n ih =>
    intro j h
    show hb j ≤ (if j = wd n then (if S.testBit n = true then W else hb j) else hN W hb wd S n j) ∧ (if j = wd n then (if S.testBit n = true then W else hb j) else hN W hb wd S n j) ≤ W
    split
    · split <;> omega
    · exact ih h
section V1
variable {X : Txt → Int32 → (Nat → Int32) → (Nat → Int32) → Prop} {I I' I1 I1' : Nat → Int32} {J J' J1 J1' : Nat → Int64} {A A' A1 A1' : Nat → Nat → Int32} {B B' B1 B1' : Nat → Nat → Int64} {T : Nat → Option Txt} {M : Nat → Option Img} {K : Nat → Int32} {lg : Int} {k t n : Nat} {m c : Int32} {wd : Nat → Nat}
theorem st_7 (e73 : I 73 = nI n) (hn : n ≤ 9) : sX2_sets I J A B = some (nI (2 ^ n)) := by
  unfold sX2_sets
  rw [e73, (sh_n n hn).1, if_neg (by rw [show (512 : Int32) = nI 512 from rfl, nn_lt (by decide) (by have := (sh_n n hn).2; omega)]; have := (sh_n n hn).2; omega)]
theorem me_7 (e73 : I 73 = nI n) (hn : n ≤ 9) (hwd : ∀ i, i < n → A 72 i = nI (wd i) ∧ wd i < 48) {S : Nat} : ∀ (f p : Nat) (A' : Nat → Nat → Int32), n < p + f → p ≤ n → (∀ a, ¬ a = 51 → A' a = A a) → (∀ j, j < 48 → ((∃ i, i < p ∧ j = wd i) ∨ ∀ i, i < n → ¬ j = wd i) → (A' 51 j).toInt = hN (A 15 0).toInt (fun j => (hdf A j).toInt) wd S p j) → SP (lX2_mend_2 f (nI S) (nI p) I J A' B) (fun A2 => (∀ a, ¬ a = 51 → A2 a = A a) ∧ ∀ j, j < 48 → (A2 51 j).toInt = hN (A 15 0).toInt (fun j => (hdf A j).toInt) wd S n j) := by
  intro f
  induction f with
  | zero => intro p A' h1 h2; omega
  | succ f ih =>
    intro p A' h1 h2 hA hh
    rw [lX2_mend_2, e73]
    by_cases hp : p = n
    · subst hp
      refine sp_t ((nn_le (by omega) (by omega)).mpr (Nat.le_refl _)) (sp_some ⟨hA, fun j hj => hh j hj ?_⟩)
      by_cases z : ∃ i, i < p ∧ j = wd i
      · exact Or.inl z
      · exact Or.inr (fun i hi y => z ⟨i, hi, y⟩)
    · refine sp_f (by rw [nn_le (by omega) (by omega)]; omega) ?_
      obtain ⟨w1, w2⟩ := hwd p (by omega)
      have w1' : A' 72 p = nI (wd p) := by rw [hA 72 (by decide)]; exact w1
      rw [ix_n (show p < 2 ^ 31 by omega), w1', ix_n (show wd p < 2 ^ 31 by omega), nI_1]
      have next : ∀ v : Int32, v.toInt = (if S.testBit p = true then (A 15 0).toInt else (hdf A (wd p)).toInt) → SP (lX2_mend_2 f (nI S) (nI (p + 1)) I J (va_up A' 51 (upd (A' 51) (wd p) v)) B) (fun A2 => (∀ a, ¬ a = 51 → A2 a = A a) ∧ ∀ j, j < 48 → (A2 51 j).toInt = hN (A 15 0).toInt (fun j => (hdf A j).toInt) wd S n j) := by
        intro v hv
        refine ih (p + 1) _ (by omega) (by omega) (fun a ha => by rw [va_up_ne _ _ ha]; exact hA a ha) (fun j hj hd => ?_)
        rw [va_up_self]
        show _ = (if j = wd p then (if S.testBit p = true then (A 15 0).toInt else (hdf A j).toInt) else hN (A 15 0).toInt (fun j => (hdf A j).toInt) wd S p j)
        by_cases z : j = wd p
        · rw [if_pos z, z, upd_s]; exact hv
        · rw [upd_n _ _ z, if_neg z]
          refine hh j hj ?_
          rcases hd with ⟨i, i1, i2⟩ | hd
          · refine Or.inl ⟨i, ?_, i2⟩
            have : ¬ i = p := fun q => z (by rw [i2, q])
            omega
          · exact Or.inr hd
      refine sp_gv ?_
      refine sp_ck (inB_n (by omega) (by decide)) ?_
      have cb : (ushr (nI S) (nI p) &&& 1 = 0) ↔ S.testBit p = false := by rw [u1_i _ (by omega), bb_n _ (by omega)]
      cases hb : S.testBit p with
      | false =>
        refine sp_t (by rw [if_pos (cb.mpr hb)]) ?_
        refine sp_ck (inB_n (by omega) (by decide)) ?_
        refine sp_bind (hold_7 w2) ?_
        refine sp_ck (inB_n w2 (by decide)) ?_
        refine sp_gv ?_
        refine sp_gv ?_
        refine next _ ?_
        rw [hb, if_neg (by decide)]
        unfold hdf
        rw [hA 11 (by decide), hA 12 (by decide), hA 15 (by decide)]
      | true =>
        refine sp_f (by rw [if_neg (fun q => by rw [cb.mp q] at hb; cases hb)]; decide) ?_
        refine sp_ck (inB_n w2 (by decide)) ?_
        refine sp_gv ?_
        refine sp_gv ?_
        refine next _ ?_
        rw [hb, if_pos rfl, hA 15 (by decide)]
        rfl
theorem mn_7 (e73 : I 73 = nI n) (hn : n ≤ 9) (hwd : ∀ i, i < n → A 72 i = nI (wd i) ∧ wd i < 48) (S : Nat) (h51 : ∀ j, j < 48 → (∀ i, i < n → ¬ j = wd i) → (A 51 j).toInt = (hdf A j).toInt) : SP (sX2_mend (nI S) I J A B) (fun A2 => (∀ a, ¬ a = 51 → A2 a = A a) ∧ ∀ j, j < 48 → (A2 51 j).toInt = hN (A 15 0).toInt (fun j => (hdf A j).toInt) wd S n j) := by
  unfold sX2_mend
  obtain ⟨A2, q1, q2⟩ := me_7 (J := J) (B := B) (S := S) e73 hn hwd FU 0 A (by unfold FU; omega) (by omega) (fun _ _ => rfl) (fun j hj hd => by
    rcases hd with ⟨i, i1, -⟩ | hd
    · omega
    · exact h51 j hj hd)
  exact sp_bind q1 (sp_some q2)
theorem wi_7 (e73 : I 73 = nI n) (hn : n ≤ 9) (hwd : ∀ i, i < n → A 72 i = nI (wd i) ∧ wd i < 48) (ht : t < 6) : ∃ H, sX2_wishesIn (nI t) I J A B = some (nI H) ∧ H < 512 ∧ ∀ i, i < n → H.testBit i = decide (wd i / 8 = t) := by
  have hl : ∀ (f p H : Nat), n < p + f → p ≤ n → H < 512 → (∀ i, i < p → H.testBit i = decide (wd i / 8 = t)) → (∀ i, p ≤ i → H.testBit i = false) → ∃ H', lX2_wishesIn_4 f (nI t) (nI H) (nI p) I J A B = some (nI H') ∧ H' < 512 ∧ ∀ i, i < n → H'.testBit i = decide (wd i / 8 = t) := by
    intro f
    induction f with
    | zero => intro p H h1 h2; omega
    | succ f ih =>
      intro p H h1 h2 hH hb hz
      rw [lX2_wishesIn_4, e73]
      by_cases hp : p = n
      · subst hp
        rw [if_pos ((nn_le (by omega) (by omega)).mpr (Nat.le_refl _))]
        exact ⟨H, rfl, hH, hb⟩
      · obtain ⟨w1, w2⟩ := hwd p (by omega)
        rw [if_neg (by rw [nn_le (by omega) (by omega)]; omega), ck, if_pos (inB_n (by omega) (by decide)), ix_n (show p < 2 ^ 31 by omega), w1, show nI (wd p) / (8 : Int32) = nI (wd p / 8) from pk_div (by omega) (by decide) (by decide)]
        dsimp only [gv]
        rw [nI_1]
        by_cases z : wd p / 8 = t
        · rw [if_pos (by rw [z]), or_n (by omega)]
          refine ih (p + 1) _ (by omega) (by omega) (or_lt (n := 9) hH (by omega)) (fun i hi => ?_) (fun i hi => ?_)
          · rw [Nat.testBit_or, Nat.testBit_two_pow]
            by_cases y : p = i
            · subst y; rw [decide_eq_true rfl, Bool.or_true, decide_eq_true z]
            · rw [decide_eq_false y, Bool.or_false]; exact hb i (by omega)
          · rw [Nat.testBit_or, Nat.testBit_two_pow, decide_eq_false (by omega), Bool.or_false]; exact hz i (by omega)
        · rw [if_neg (by rw [nI_eq (by omega) (by omega)]; exact z), Int32.or_zero]
          refine ih (p + 1) H (by omega) (by omega) hH (fun i hi => ?_) (fun i hi => hz i (by omega))
          by_cases y : i = p
          · subst y; rw [hz i (Nat.le_refl _), decide_eq_false z]
          · exact hb i (by omega)
  obtain ⟨H, r1, r2, r3⟩ := hl FU 0 0 (by unfold FU; omega) (by omega) (by decide) (fun i hi => by omega) (fun i _ => Nat.zero_testBit i)
  have r1 : lX2_wishesIn_4 FU (nI t) 0 0 I J A B = some (nI H) := r1
  exact ⟨H, by unfold sX2_wishesIn; rw [r1]; rfl, r2, r3⟩
/-- of the winds and currents that are asked for those by which a joint of a tier goes at all -/
theorem sr_7 {h : Nat → Int} (hX : XE X) (hs : SR X GG I A T K) (ek : I 32 = nI k) (hk : k ≤ 16) (hh : ∀ j, j < 48 → 0 ≤ h j ∧ h j ≤ 100000) (hl : 0 ≤ lg ∧ lg ≤ 10) (hy : RY h lg I A) (ht : t < 6) (m : Int32) : SP (sX1_stirsOf (nI t) m I J A B) (fun a => (∀ q, q < 32 → bb a.1 q = (decide (q < 2 * k) && (bb m q && (lk (eS h lg A (q / 2) (nI (q % 2))) (fun _ => false) t).isSome))) ∧ (∀ q, ¬ q = 54 → a.2.1 q = I q) ∧ ∀ b, ¬ b = 60 → ¬ b = 61 → ¬ b = 64 → a.2.2.2.1 b = A b) := by
  have hlp : ∀ (f i : Nat) (x : Int32) (I' : Nat → Int32) (J : Nat → Int64) (A' : Nat → Nat → Int32) (B : Nat → Nat → Int64), 2 * k < i + f → i ≤ 2 * k → (∀ q, ¬ q = 54 → I' q = I q) → (∀ b, ¬ b = 60 → ¬ b = 61 → ¬ b = 64 → A' b = A b) → A' 60 t = 0 → (∀ q, q < 32 → bb x q = (decide (q < i) && (decide (q < 2 * k) && (bb m q && (lk (eS h lg A (q / 2) (nI (q % 2))) (fun _ => false) t).isSome)))) → SP (lX1_stirsOf_12 f (nI t) m x (nI i) I' J A' B) (fun a => (∀ q, q < 32 → bb a.1 q = (decide (q < 2 * k) && (bb m q && (lk (eS h lg A (q / 2) (nI (q % 2))) (fun _ => false) t).isSome))) ∧ (∀ q, ¬ q = 54 → a.2.1 q = I q) ∧ ∀ b, ¬ b = 60 → ¬ b = 61 → ¬ b = 64 → a.2.2.2.1 b = A b) := by
    intro f
    induction f with
    | zero => intro i x I' J A' B h1 h2; omega
    | succ f ih =>
      intro i x I' J A' B h1 h2 hI hA h60 hx
      rw [lX1_stirsOf_12, hI 32 (by decide), ek, show (2 : Int32) * nI k = nI (2 * k) by rw [show (2 : Int32) = nI 2 from rfl, pk_mul]]
      by_cases hi : i = 2 * k
      · refine sp_t (by rw [hi]; exact (nn_le (by omega) (by omega)).mpr (Nat.le_refl _)) (sp_some ⟨fun q hq => ?_, hI, hA⟩)
        show bb x q = _
        rw [hx q hq, hi]
        cases decide (q < 2 * k) <;> rfl
      · have hi : i < 2 * k := by omega
        refine sp_f (by rw [nn_le (by omega) (by omega)]; omega) ?_
        have c1 : (ushr m (nI i) &&& 1 = 0) ↔ bb m i = false := u1_i _ (by omega)
        rw [nI_1]
        cases hmi : bb m i with
        | false =>
          refine sp_t (c1.mpr hmi) (sp_gv ?_)
          refine ih (i + 1) x I' J A' B (by omega) (by omega) hI hA h60 (fun q hq => ?_)
          rw [hx q hq]
          by_cases z : q = i
          · subst z
            rw [hmi, Bool.false_and, Bool.and_false, Bool.and_false, Bool.and_false]
          · rw [decide_eq_decide.mpr (show q < i ↔ q < i + 1 by omega)]
        | true =>
          refine sp_f (fun q => by rw [c1.mp q] at hmi; cases hmi) ?_
          have hs' : SR X GG I' A' T K := SR_ext hX (fun q q1 q2 => hI q (by omega)) (fun a k1 k2 j => by rw [hA a (by omega) (by omega) (by omega)]) (fun _ _ => rfl) hs
          have hy' : RY h lg I' A' := RY_x hy (hI 57 (by decide)) (hA 51 (by decide) (by decide) (by decide)) (hA 55 (by decide) (by decide) (by decide)) (hA 56 (by decide) (by decide) (by decide)) (hA 13 (by decide) (by decide) (by decide)) (hA 15 (by decide) (by decide) (by decide))
          rw [show nI i - nI i / (2 : Int32) * 2 = nI (i % 2) from pk_rem (by omega) (by decide) (by decide), show nI i / (2 : Int32) = nI (i / 2) from pk_div (by omega) (by decide) (by decide)]
          obtain ⟨J2, b1, b2⟩ := bw_s (J := J) (B := B) (w := i / 2) (c := nI (i % 2)) hs' ((hI 32 (by decide)).trans ek) hk (by omega) (by
            rcases (by omega : i % 2 = 0 ∨ i % 2 = 1) with z | z
            · rw [z]; exact Or.inl rfl
            · rw [z]; exact Or.inr rfl) hh hl hy'
          rw [eS_x (hA 10 (by decide) (by decide) (by decide)) (hA 14 (by decide) (by decide) (by decide)) (hA 13 (by decide) (by decide) (by decide)) (hA 31 (by decide) (by decide) (by decide)) (hA 15 (by decide) (by decide) (by decide))] at b2
          refine sp_bind b1 ?_
          have hgen : ∀ (e : Nat → Nat → Int), eS h lg A (i / 2) (nI (i % 2)) = e → BS e I' J2 A' → SP ((sX1_look (nI t) I' J2 A' B).bind fun (I, A, B) => ck (inB (nI t) 6) <| gv (if (A 61 (ix (nI t))) = -1 then 0 else ((1 : Int32) <<< (nI i &&& 31))) fun v_74 => gv (x ||| v_74) fun x3_75 => gv (nI (i + 1)) fun x4_76 => lX1_stirsOf_12 f (nI t) m x3_75 x4_76 I J2 A B) (fun a => (∀ q, q < 32 → bb a.1 q = (decide (q < 2 * k) && (bb m q && (lk (eS h lg A (q / 2) (nI (q % 2))) (fun _ => false) t).isSome))) ∧ (∀ q, ¬ q = 54 → a.2.1 q = I q) ∧ ∀ b, ¬ b = 60 → ¬ b = 61 → ¬ b = 64 → a.2.2.2.1 b = A b) := by
            intro e he b2
            have hokE := ok_0 b2.1 ht
            obtain ⟨A2, B2, q1, q2, q3, q4, q5, q6, q7⟩ := lk_7 (g := fun _ => false) (B := B) b2 ht (fun i _ => by rw [h60, bb_0])
            rw [hokE, if_pos rfl] at q1
            refine sp_bind q1 ?_
            refine sp_ck (inB_n (by omega) (by decide)) ?_
            rw [ix_n (show t < 2 ^ 31 by omega), q6]
            refine sp_gv ?_
            refine sp_gv ?_
            refine sp_gv ?_
            refine ih (i + 1) _ I' J2 A2 B2 (by omega) (by omega) hI (fun b b1 b2 b3 => by rw [q2 b b2 b3]; exact hA b b1 b2 b3) (by rw [q2 60 (by decide) (by decide)]; exact h60) (fun q hq => ?_)
            rw [bb_or, hx q hq]
            by_cases z : q = i
            · subst z
              rw [hmi, he, decide_eq_false (Nat.lt_irrefl q), Bool.false_and, Bool.false_or, decide_eq_true (Nat.lt_succ_self q), decide_eq_true hi, Bool.true_and, Bool.true_and, Bool.true_and]
              cases hlk : lk e (fun _ => false) t with
              | none => rw [if_pos (show wI none = -1 from rfl), bb_0]; rfl
              | some p =>
                have hp : p.1 < 48 := by
                  unfold lk at hlk
                  rw [if_pos hokE] at hlk
                  have := bT_s hlk
                  omega
                rw [if_neg (show ¬ wI (some p) = -1 from nI_m1 (by omega)), s1_i (by omega) hq, decide_eq_true rfl]
                rfl
            · have z2 : bb (if wI (lk e (fun _ => false) t) = -1 then 0 else ((1 : Int32) <<< (nI i &&& 31))) q = false := by
                split
                · exact bb_0 q
                · rw [s1_i (by omega) hq, decide_eq_false z]
              rw [z2, Bool.or_false, decide_eq_decide.mpr (show q < i ↔ q < i + 1 by omega)]
          exact hgen _ rfl b2
  unfold sX1_stirsOf
  refine sp_ck (inB_n (by omega) (by decide)) ?_
  rw [ix_n (show t < 2 ^ 31 by omega)]
  refine sp_gv ?_
  obtain ⟨⟨x, I2, J2, A2, B2⟩, q1, q2⟩ := hlp FU 0 0 I J (va_up A 60 (upd (A 60) t 0)) B (by unfold FU; omega) (by omega) (fun _ _ => rfl) (fun b b1 _ _ => va_up_ne _ _ b1) (by rw [va_up_self, upd_s]) (fun q _ => by rw [bb_0]; rfl)
  exact sp_bind q1 (sp_some q2)
end V1
