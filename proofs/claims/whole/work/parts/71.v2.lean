theorem run_0 {e e' : Nat → Nat → Int} {t : Nat} (he : EB e) (ht : t < 6) (h : ∀ k i, ¬ k = 1 → e k i = e' k i) (h1 : ∀ j, j < 48 → e 1 j ≤ e' 1 j) (hl : lk e (fun _ => false) t = none) : ∀ m, runL e' t m (fun _ => false) = false := by
  have hok := ok_0 he ht
  intro m
  cases m with
  | zero => rfl
  | succ m =>
    rw [runL, ← okF_x (e := e) (e' := e') (g := fun _ => false) (g' := fun _ => false) h (fun _ _ => rfl), if_pos hok]
    have hb : bT (qF e' (fun _ => false)) (8 * t) 8 = none := by
      refine bT_0 8 (fun j j1 j2 => ?_)
      unfold lk at hl
      rw [if_pos hok] at hl
      have hq := bT_n hl j j1 j2
      have hj : j < 48 := by omega
      have ho : oF e (fun _ => false) j ≤ 0 := by
        refine Decidable.byContradiction (fun hc => ?_)
        unfold qF at hq
        rw [if_neg (show ¬ false = true by decide), if_neg hc] at hq
        cases hq
      have hd := dF_1 (g := fun _ => false) he hj rfl (show okF e (fun _ => false) (j / 8) = true from ok_0 he (by omega))
      obtain ⟨a, b⟩ := pF_x (e := e) (e' := e') (g := fun _ => false) (g' := fun _ => false) (j := j) h (fun _ _ => rfl)
      have hle : oF e' (fun _ => false) j ≤ oF e (fun _ => false) j := by
        unfold oF
        rw [← a, ← b, ← h 2 _ (by decide)]
        have := Int.mul_le_mul_of_nonneg_right (show 1000 * (e 2 (j / 8) + e 1 j) ≤ 1000 * (e 2 (j / 8) + e' 1 j) by have := h1 j hj; omega) (Int.le_of_lt hd)
        omega
      unfold qF
      rw [if_neg (show ¬ false = true by decide), if_pos (by omega)]
    rw [hb]
section V2
variable {X : Txt → Int32 → (Nat → Int32) → (Nat → Int32) → Prop} {I I' I1 I1' : Nat → Int32} {J J' J1 J1' : Nat → Int64} {A A' A1 A1' : Nat → Nat → Int32} {B B' B1 B1' : Nat → Nat → Int64} {T : Nat → Option Txt} {M : Nat → Option Img} {K : Nat → Int32} {lg : Int} {k t n : Nat} {m c : Int32} {wd : Nat → Nat}
abbrev hS (A : Nat → Nat → Int32) (wd : Nat → Nat) (n S : Nat) : Nat → Int := hN (A 15 0).toInt (fun j => (hdf A j).toInt) wd S n
theorem hS_b (hs : SR X GG I A T K) (S : Nat) : ∀ j, j < 48 → 0 ≤ hS A wd n S j ∧ hS A wd n S j ≤ 100000 := by
  intro j hj
  have h1 := hd_v hs hj
  have h2 := hN_g (W := (A 15 0).toInt) (hb := fun j => (hdf A j).toInt) (wd := wd) (S := S) (n := n) (j := j) h1.2.2.1
  show 0 ≤ hN _ _ _ _ _ _ ∧ hN _ _ _ _ _ _ ≤ 100000
  have h2a : (hdf A j).toInt ≤ _ := h2.1
  omega
theorem fB_k (hs : SR X GG I A T K) (ek : I 32 = nI k) (hk : k ≤ 16) (hl : 0 ≤ lg ∧ lg ≤ 10) (ht : t < 6) (S : Nat) {asked : Int32} (ha : ∀ q, q < 32 → bb asked q = (decide (q < 2 * k) && (bb m q && (lk (eS (fun j => (hdf A j).toInt) lg A (q / 2) (nI (q % 2))) (fun _ => false) t).isSome))) {q : Nat} (hq : q < 32) : fB (hS A wd n S) lg A t asked k q = fB (hS A wd n S) lg A t m k q := by
  unfold fB
  rw [ha q hq]
  by_cases z : q < 2 * k
  · rw [decide_eq_true z]
    cases hm : bb m q with
    | false => rfl
    | true =>
      cases hlk : lk (eS (fun j => (hdf A j).toInt) lg A (q / 2) (nI (q % 2))) (fun _ => false) t with
      | some p => rfl
      | none =>
        have hb0 : ∀ j, j < 48 → 0 ≤ (fun j => (hdf A j).toInt) j ∧ (fun j => (hdf A j).toInt) j ≤ 100000 := fun j hj => by
          have := hd_v hs hj
          show 0 ≤ (hdf A j).toInt ∧ (hdf A j).toInt ≤ 100000
          omega
        rw [run_0 (e' := eS (hS A wd n S) lg A (q / 2) (nI (q % 2))) (eS_b hs ek hk (show q / 2 < k by omega) hb0 hl) ht (eS_h _ _ lg A _ _) (fun j hj => (hN_g (hd_v hs hj).2.2.1).1) hlk 9]
        rfl
  · rw [decide_eq_false z]
    rfl
/-- while sets are weighed: the class's cells -/
def MS (n : Nat) (wd : Nat → Nat) (I : Nat → Int32) (A : Nat → Nat → Int32) (I' : Nat → Int32) (A' : Nat → Nat → Int32) : Prop := (∀ q, ¬ q = 54 → I' q = I q) ∧ (∀ b, ¬ b = 51 → ¬ b = 60 → ¬ b = 61 → ¬ b = 64 → ¬ b = 77 → ¬ b = 78 → A' b = A b) ∧ ∀ j, j < 48 → (∀ i, i < n → ¬ j = wd i) → (A' 51 j).toInt = (hdf A j).toInt
theorem MS_s (hX : XE X) (hs : SR X GG I A T K) (h : MS n wd I A I' A') : SR X GG I' A' T K := SR_ext hX (fun q q1 q2 => h.1 q (by omega)) (fun a k1 k2 j => by rw [h.2.1 a (by omega) (by omega) (by omega) (by omega) (by omega) (by omega)]) (fun _ _ => rfl) hs
theorem MS_e (h : MS n wd I A I' A') (g : Nat → Int) (w : Nat) (c : Int32) : eS g lg A' w c = eS g lg A w c := eS_x (h.2.1 10 (by decide) (by decide) (by decide) (by decide) (by decide) (by decide)) (h.2.1 14 (by decide) (by decide) (by decide) (by decide) (by decide) (by decide)) (h.2.1 13 (by decide) (by decide) (by decide) (by decide) (by decide) (by decide)) (h.2.1 31 (by decide) (by decide) (by decide) (by decide) (by decide) (by decide)) (h.2.1 15 (by decide) (by decide) (by decide) (by decide) (by decide) (by decide))
theorem MS_h (h : MS n wd I A I' A') (j : Nat) : hdf A' j = hdf A j := by
  unfold hdf
  rw [h.2.1 11 (by decide) (by decide) (by decide) (by decide) (by decide) (by decide), h.2.1 12 (by decide) (by decide) (by decide) (by decide) (by decide) (by decide), h.2.1 15 (by decide) (by decide) (by decide) (by decide) (by decide) (by decide)]
theorem MS_m (e73 : I 73 = nI n) (hn : n ≤ 9) (hwd : ∀ i, i < n → A 72 i = nI (wd i) ∧ wd i < 48) (h : MS n wd I A I' A') (S : Nat) : ∃ A2, sX2_mend (nI S) I' J A' B = some A2 ∧ MS n wd I A I' A2 ∧ (∀ a, ¬ a = 51 → A2 a = A' a) ∧ ∀ j, j < 48 → (A2 51 j).toInt = hS A wd n S j := by
  have h15 : A' 15 = A 15 := h.2.1 15 (by decide) (by decide) (by decide) (by decide) (by decide) (by decide)
  obtain ⟨A2, q1, q2, q3⟩ := mn_7 (I := I') (J := J) (A := A') (B := B) ((h.1 73 (by decide)).trans e73) hn (by rw [h.2.1 72 (by decide) (by decide) (by decide) (by decide) (by decide) (by decide)]; exact hwd) S (fun j hj hu => by rw [MS_h h j]; exact h.2.2 j hj hu)
  have q3 : ∀ j, j < 48 → (A2 51 j).toInt = hS A wd n S j := fun j hj => by
    rw [q3 j hj, h15]
    show hN _ _ _ _ _ _ = hN _ _ _ _ _ _
    rw [show (fun j => (hdf A' j).toInt) = (fun j => (hdf A j).toInt) from funext (fun j => by rw [MS_h h j])]
  refine ⟨A2, q1, ⟨h.1, fun b b1 b2 b3 b4 b5 b6 => by rw [q2 b b1]; exact h.2.1 b b1 b2 b3 b4 b5 b6, fun j hj hu => ?_⟩, q2, q3⟩
  rw [q3 j hj]
  exact hN_u hu
theorem MS_y (hy : RY (fun j => (hdf A j).toInt) lg I A) (h : MS n wd I A I' A') {g : Nat → Int} (h51 : ∀ j, j < 48 → (A' 51 j).toInt = g j) : RY g lg I' A' := by
  refine ⟨h51, ?_, ?_, ?_⟩
  · rw [h.2.1 55 (by decide) (by decide) (by decide) (by decide) (by decide) (by decide), h.2.1 13 (by decide) (by decide) (by decide) (by decide) (by decide) (by decide)]; exact hy.2.1
  · rw [h.2.1 56 (by decide) (by decide) (by decide) (by decide) (by decide) (by decide), h.2.1 13 (by decide) (by decide) (by decide) (by decide) (by decide) (by decide)]; exact hy.2.2.1
  · rw [h.1 57 (by decide), h.2.1 15 (by decide) (by decide) (by decide) (by decide) (by decide) (by decide)]; exact hy.2.2.2
theorem ad_7 (hX : XE X) (hs : SR X GG I A T K) (ek : I 32 = nI k) (hk : k ≤ 16) (hl : 0 ≤ lg ∧ lg ≤ 10) (hy : RY (fun j => (hdf A j).toInt) lg I A) (e73 : I 73 = nI n) (hn : n ≤ 9) (hwd : ∀ i, i < n → A 72 i = nI (wd i) ∧ wd i < 48) (ht : t < 6) {asked : Int32} (ha : ∀ q, q < 32 → bb asked q = (decide (q < 2 * k) && (bb m q && (lk (eS (fun j => (hdf A j).toInt) lg A (q / 2) (nI (q % 2))) (fun _ => false) t).isSome))) {H : Nat} (hH : H < 512) (hHb : ∀ i, i < n → H.testBit i = decide (wd i / 8 = t)) {F0 : Nat → Int32} : ∀ (f S : Nat) (I' : Nat → Int32) (J : Nat → Int64) (A' : Nat → Nat → Int32) (B : Nat → Nat → Int64), 2 ^ n < S + f → S ≤ 2 ^ n → MS n wd I A I' A' → (∀ S', S' < S → ∀ q, q < 32 → bb (A' 77 S') q = (bb (F0 S') q || fB (hS A wd n S') lg A t m k q)) → (∀ S', S ≤ S' → S' < 2 ^ n → A' 77 S' = F0 S') → (∀ S', S' < S → S' &&& H = S' → ∀ q, q < 32 → bb (A' 78 S') q = fB (hS A wd n S') lg A t asked k q) → SP (lX2_addFallsOf_30 f (nI t) asked (nI H) (nI S) I' J A' B) (fun a => MS n wd I A a.1 a.2.2.1 ∧ ∀ S', S' < 2 ^ n → ∀ q, q < 32 → bb (a.2.2.1 77 S') q = (bb (F0 S') q || fB (hS A wd n S') lg A t m k q)) := by
  have h512 := (sh_n n hn).2
  intro f
  induction f with
  | zero => intro S I' J A' B h1 h2; omega
  | succ f ih =>
    intro S I' J A' B h1 h2 hms h77 h77b h78
    rw [lX2_addFallsOf_30]
    refine sp_bind (st_7 ((hms.1 73 (by decide)).trans e73) hn) ?_
    by_cases hS2 : S = 2 ^ n
    · refine sp_t ((nn_le (by omega) (by omega)).mpr (by omega)) (sp_some ⟨hms, fun S' hS' => h77 S' (by omega)⟩)
    · refine sp_f (by rw [nn_le (by omega) (by omega)]; omega) ?_
      by_cases hz : asked = 0
      · refine sp_t hz (sp_some ⟨hms, fun S' hS' q hq => ?_⟩)
        by_cases c : S' < S
        · exact h77 S' c q hq
        · rw [← fB_k hs ek hk hl ht S' ha hq]
          show bb (A' 77 S') q = _
          rw [h77b S' (by omega) hS']
          unfold fB
          rw [hz, bb_0, Bool.false_and, Bool.and_false, Bool.or_false]
      · refine sp_f hz ?_
        rw [and_n, nI_1]
        refine sp_gv ?_
        refine sp_gv ?_
        have hP : S &&& H ≤ S := Nat.and_le_left
        have hS512 : S < 512 := by omega
        rw [ix_n (show S < 2 ^ 31 by omega), ix_n (show S &&& H < 2 ^ 31 by omega)]
        -- behind the tier's own sets
        have tail : ∀ (I2 : Nat → Int32) (J2 : Nat → Int64) (A2 : Nat → Nat → Int32) (B2 : Nat → Nat → Int64), MS n wd I A I2 A2 → A2 77 = A' 77 → (∀ S', S' < S + 1 → S' &&& H = S' → ∀ q, q < 32 → bb (A2 78 S') q = fB (hS A wd n S') lg A t asked k q) → SP (ck (inB (nI S) 512) <| ck (inB (nI (S &&& H)) 512) <| ck (inB (nI S) 512) <| gv (va_up A2 77 (upd (A2 77) S ((A2 77 S) ||| (A2 78 (S &&& H))))) fun A => gv (nI (S + 1)) fun x4_95 => lX2_addFallsOf_30 f (nI t) asked (nI H) x4_95 I2 J2 A B2) (fun a => MS n wd I A a.1 a.2.2.1 ∧ ∀ S', S' < 2 ^ n → ∀ q, q < 32 → bb (a.2.2.1 77 S') q = (bb (F0 S') q || fB (hS A wd n S') lg A t m k q)) := by
          intro I2 J2 A2 B2 hms2 h2a h2b
          refine sp_ck (inB_n hS512 (by decide)) ?_
          refine sp_ck (inB_n (by omega) (by decide)) ?_
          refine sp_ck (inB_n hS512 (by decide)) ?_
          refine sp_gv ?_
          refine sp_gv ?_
          have hpart : ∀ q, q < 32 → bb (A2 78 (S &&& H)) q = fB (hS A wd n S) lg A t m k q := fun q hq => by
            rw [h2b (S &&& H) (by omega) (by rw [Nat.and_assoc, Nat.and_self]) q hq, ← fB_k hs ek hk hl ht S ha hq]
            refine fB_x (fun j hj => ?_) q
            exact hN_x (fun i hi hit => by rw [Nat.testBit_and, hHb i hi, decide_eq_true hit, Bool.and_true]) j hj
          refine ih (S + 1) I2 J2 _ B2 (by omega) (by omega) ⟨hms2.1, fun b b1 b2 b3 b4 b5 b6 => by rw [va_up_ne _ _ b5]; exact hms2.2.1 b b1 b2 b3 b4 b5 b6, hms2.2.2⟩ (fun S' hS' q hq => ?_) (fun S' s1 s2 => ?_) (fun S' hS' hp q hq => ?_)
          · rw [va_up_self]
            by_cases z : S' = S
            · subst z
              rw [upd_s, bb_or, hpart q hq, h2a, h77b S' (Nat.le_refl _) (by omega)]
            · rw [upd_n _ _ z, h2a]; exact h77 S' (by omega) q hq
          · rw [va_up_self, upd_n _ _ (by omega), h2a]; exact h77b S' (by omega) s2
          · rw [va_up_ne _ _ (by decide)]; exact h2b S' hS' hp q hq
        by_cases hpS : S &&& H = S
        · refine sp_t (by rw [hpS]) ?_
          obtain ⟨Am, m1, m2, m3, m4⟩ := MS_m (J := J) (B := B) e73 hn hwd hms S
          refine sp_bind m1 ?_
          obtain ⟨⟨r, I3, J3, A3, B3⟩, q1, q2, q3, q4⟩ := fo_7 (J := J) (B := B) hX (MS_s hX hs m2) ((m2.1 32 (by decide)).trans ek) hk (hS_b hs S) hl (MS_y hy m2 m4) ht asked
          refine sp_bind q1 ?_
          refine sp_ck (inB_n hS512 (by decide)) ?_
          refine sp_gv ?_
          have q3 : ∀ q, ¬ q = 54 → I3 q = I' q := q3
          have q4 : ∀ b, ¬ b = 60 → ¬ b = 61 → ¬ b = 64 → A3 b = Am b := q4
          refine tail I3 J3 _ B3 ⟨fun q hq => by rw [q3 q hq]; exact hms.1 q hq, fun b b1 b2 b3 b4 b5 b6 => by rw [va_up_ne _ _ b6, q4 b b2 b3 b4]; exact m2.2.1 b b1 b2 b3 b4 b5 b6, fun j hj hu => ?_⟩ ?_ (fun S' hS' hp q hq => ?_)
          · rw [va_up_ne _ _ (by decide), q4 51 (by decide) (by decide) (by decide)]; exact m2.2.2 j hj hu
          · rw [va_up_ne _ _ (by decide), q4 77 (by decide) (by decide) (by decide), m3 77 (by decide)]
          · rw [va_up_self]
            by_cases z : S' = S
            · subst z
              rw [upd_s, show bb r q = _ from q2 q hq]
              unfold fB
              rw [MS_e m2]
            · rw [upd_n _ _ z, q4 78 (by decide) (by decide) (by decide), m3 78 (by decide)]
              exact h78 S' (by omega) hp q hq
        · refine sp_f (by rw [nI_eq (by omega) (by omega)]; exact hpS) ?_
          exact tail I' J A' B hms rfl (fun S' hS' hp q hq => by
            by_cases z : S' = S
            · subst z; exact absurd hp hpS
            · exact h78 S' (by omega) hp q hq)
theorem af_8 (hX : XE X) (hs : SR X GG I A T K) (ek : I 32 = nI k) (hk : k ≤ 16) (hl : 0 ≤ lg ∧ lg ≤ 10) (hy : RY (fun j => (hdf A j).toInt) lg I A) (e73 : I 73 = nI n) (hn : n ≤ 9) (hwd : ∀ i, i < n → A 72 i = nI (wd i) ∧ wd i < 48) (ht : t < 6) (hms : MS n wd I A I' A') : SP (sX2_addFallsOf (nI t) I' J A' B) (fun a => MS n wd I A a.1 a.2.2.1 ∧ ∀ S', S' < 2 ^ n → ∀ q, q < 32 → bb (a.2.2.1 77 S') q = (bb (A' 77 S') q || fB (hS A wd n S') lg A t (if A 15 4 = 0 then -1431655766 else -1) k q)) := by
  unfold sX2_addFallsOf
  obtain ⟨Am, m1, m2, m3, m4⟩ := MS_m (J := J) (B := B) e73 hn hwd hms 0
  have m1 : sX2_mend 0 I' J A' B = some Am := m1
  refine sp_bind m1 ?_
  refine sp_bind (show sX4_currents I' J Am B = some (if A 15 4 = 0 then -1431655766 else -1) by
    unfold sX4_currents
    rw [show Am 15 = A 15 from m2.2.1 15 (by decide) (by decide) (by decide) (by decide) (by decide) (by decide)]
    rfl) ?_
  generalize (if A 15 4 = 0 then (-1431655766 : Int32) else -1) = m
  have h0 : hS A wd n 0 = (fun j => (hdf A j).toInt) := funext (fun j => hN_0 _ _ _ n j)
  rw [h0] at m4
  have hb0 : ∀ j, j < 48 → 0 ≤ (fun j => (hdf A j).toInt) j ∧ (fun j => (hdf A j).toInt) j ≤ 100000 := fun j hj => by
    have := hd_v hs hj
    show 0 ≤ (hdf A j).toInt ∧ (hdf A j).toInt ≤ 100000
    omega
  obtain ⟨⟨asked, I3, J3, A3, B3⟩, q1, q2, q3, q4⟩ := sr_7 (J := J) (B := B) (h := fun j => (hdf A j).toInt) hX (MS_s hX hs m2) ((m2.1 32 (by decide)).trans ek) hk hb0 hl (MS_y hy m2 m4) ht m
  refine sp_bind q1 ?_
  have q3 : ∀ q, ¬ q = 54 → I3 q = I' q := q3
  have q4 : ∀ b, ¬ b = 60 → ¬ b = 61 → ¬ b = 64 → A3 b = Am b := q4
  have q2 : ∀ q, q < 32 → bb asked q = (decide (q < 2 * k) && (bb m q && (lk (eS (fun j => (hdf A j).toInt) lg A (q / 2) (nI (q % 2))) (fun _ => false) t).isSome)) := fun q hq => by
    have := q2 q hq
    rw [MS_e m2] at this
    exact this
  have ms3 : MS n wd I A I3 A3 := ⟨fun q hq => by rw [q3 q hq]; exact hms.1 q hq, fun b b1 b2 b3 b4 b5 b6 => by rw [q4 b b2 b3 b4]; exact m2.2.1 b b1 b2 b3 b4 b5 b6, fun j hj hu => by rw [q4 51 (by decide) (by decide) (by decide)]; exact m2.2.2 j hj hu⟩
  obtain ⟨H, w1, w2, w3⟩ := wi_7 (I := I3) (J := J3) (A := A3) (B := B3) ((ms3.1 73 (by decide)).trans e73) hn (by rw [ms3.2.1 72 (by decide) (by decide) (by decide) (by decide) (by decide) (by decide)]; exact hwd) ht
  refine sp_bind w1 ?_
  have h77 : A3 77 = A' 77 := by rw [q4 77 (by decide) (by decide) (by decide), m3 77 (by decide)]
  obtain ⟨⟨I4, J4, A4, B4⟩, r1, r2⟩ := ad_7 (m := m) (F0 := A' 77) hX hs ek hk hl hy e73 hn hwd ht q2 w2 w3 FU 0 I3 J3 A3 B3 (by have := (sh_n n hn).2; unfold FU; omega) (Nat.zero_le _) ms3 (fun S' hS' => by omega) (fun S' _ _ => by rw [h77]) (fun S' hS' => by omega)
  have r1 : lX2_addFallsOf_30 FU (nI t) asked (nI H) 0 I3 J3 A3 B3 = some (I4, J4, A4, B4) := r1
  exact sp_bind r1 (sp_some r2)
end V2
