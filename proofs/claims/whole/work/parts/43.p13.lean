/-! bits: rows of kit/laws/BITS (bt there, bb here) -/
def bb (x : Int32) (i : Nat) : Bool := x.toBitVec.getLsbD i
theorem bb_ext {x y : Int32} (h : ∀ i, i < 32 → bb x i = bb y i) : x = y := Int32.toBitVec_inj.mp (BitVec.eq_of_getLsbD_eq (fun i hi => h i hi))
theorem bb_or (x y : Int32) (i : Nat) : bb (x ||| y) i = (bb x i || bb y i) := by unfold bb; rw [Int32.toBitVec_or, BitVec.getLsbD_or]
theorem bb_and (x y : Int32) (i : Nat) : bb (x &&& y) i = (bb x i && bb y i) := by unfold bb; rw [Int32.toBitVec_and, BitVec.getLsbD_and]
theorem bb_big {x : Int32} {i : Nat} (h : 32 ≤ i) : bb x i = false := BitVec.getLsbD_of_ge _ _ h
theorem bb_255 (i : Nat) : bb 255 i = decide (i < 8) := by
  rcases Nat.lt_or_ge i 32 with h | h
  · exact (by decide +kernel : ∀ i, i < 32 → bb 255 i = decide (i < 8)) i h
  · rw [bb_big h, decide_eq_false (by omega)]
theorem bb_0 (i : Nat) : bb 0 i = false := BitVec.getLsbD_zero
theorem bs_l : ∀ n, n < 32 → ((nI n &&& 31).toBitVec.smod 32).toNat = n := by decide +kernel
theorem bs_u : ∀ n, n < 32 → (((nI n).toUInt32 &&& Int32.toUInt32 31).toBitVec % 32).toNat = n := by decide +kernel
theorem bb_shl (n : Nat) (hn : n < 32) (x : Int32) {i : Nat} (hi : i < 32) : bb (x <<< (nI n &&& 31)) i = (decide (n ≤ i) && bb x (i - n)) := by
  unfold bb
  rw [Int32.toBitVec_shiftLeft]
  show (x.toBitVec <<< ((nI n &&& 31).toBitVec.smod 32).toNat).getLsbD i = _
  rw [bs_l n hn, BitVec.getLsbD_shiftLeft]
  rcases Nat.lt_or_ge i n with h | h
  · simp [h, Nat.not_le.mpr h]
  · simp [hi, h, Nat.not_lt.mpr h]
theorem bb_ushr (n : Nat) (hn : n < 32) (x : Int32) (i : Nat) : bb ((x.toUInt32 >>> ((nI n).toUInt32 &&& Int32.toUInt32 31)).toInt32) i = bb x (n + i) := by
  show (x.toUInt32 >>> ((nI n).toUInt32 &&& Int32.toUInt32 31)).toBitVec.getLsbD i = x.toUInt32.toBitVec.getLsbD (n + i)
  rw [UInt32.toBitVec_shiftRight]
  show (x.toUInt32.toBitVec >>> (((nI n).toUInt32 &&& Int32.toUInt32 31).toBitVec % 32).toNat).getLsbD i = _
  rw [bs_u n hn, BitVec.getLsbD_ushiftRight]
theorem bb_sshr (n : Nat) (hn : n < 32) (x : Int32) {i : Nat} (hi : i < 32) : bb (x >>> (nI n &&& 31)) i = if n + i < 32 then bb x (n + i) else bb x 31 := by
  unfold bb
  rw [Int32.toBitVec_shiftRight]
  show (x.toBitVec.sshiftRight ((nI n &&& 31).toBitVec.smod 32).toNat).getLsbD i = _
  rw [bs_l n hn, BitVec.getLsbD_sshiftRight, BitVec.msb_eq_getLsbD_last]
  simp [hi]
theorem by_e (x : Int32) {d : Nat} (hd : d ≤ 24) : (x >>> (nI d &&& 31)).toInt8 = ((ushr x (nI d)) &&& 255).toInt8 := by
  refine Int8.toBitVec_inj.mp (BitVec.eq_of_getLsbD_eq (fun i hi => ?_))
  rw [Int32.toBitVec_toInt8, Int32.toBitVec_toInt8, BitVec.getLsbD_signExtend, BitVec.getLsbD_signExtend, if_pos (by omega), if_pos (by omega)]
  show (decide (i < 8) && bb (x >>> (nI d &&& 31)) i) = (decide (i < 8) && bb (ushr x (nI d) &&& 255) i)
  rw [bb_and, bb_255, bb_sshr d (by omega) x (by omega), bb_ushr d (by omega), if_pos (by omega)]
  simp [hi]
theorem an_255 (x : Int32) : ∃ b, b < 256 ∧ x &&& 255 = nI b := ⟨_, Nat.mod_lt _ (by decide), pk_and x 8 (by decide +kernel)⟩
theorem bt_n {k : Nat} {a b : Int} (hk : k < 2 ^ 31) (h1 : a ≤ (k : Int)) (h2 : (k : Int) ≤ b) : bt (nI k) a b := by rw [bt, nI_toInt hk]; exact ⟨h1, h2⟩
theorem ty_1 : ∀ b, b < 256 → ((nI b ≤ 1 ↔ ¬ rg ((nI b).toInt8.toInt32) 0 1 = 0) ∧ (nI b ≤ 1 → (nI b).toInt8.toInt32 = nI b) ∧ (nI b).toInt8.toInt32 &&& 255 = nI b) := by decide +kernel
section P15
variable {X : Txt → Int32 → (Nat → Int32) → (Nat → Int32) → Prop} {G : Nat → Nat → Int32 → Prop} {I I1 : Nat → Int32} {J J1 : Nat → Int64} {A A1 : Nat → Nat → Int32} {B B1 : Nat → Nat → Int64} {T : Nat → Option Txt} {M : Nat → Option Img}
theorem fd_8 {t : Nat} (ht : t + 20 ≤ 400) (e20 : I1 20 = nI t) : ∀ (n p : Nat) (A1 : Nat → Nat → Int32), 20 < p + n → p ≤ 20 → ∃ A2, lX8_feed_55 n (nI p) I1 J1 A1 B1 = some A2 ∧ (∀ a, ¬ a = 18 → A2 a = A1 a) ∧ (∀ j, j < t + p → A2 18 j = A1 18 j) ∧ (∀ q, p ≤ q → q < 20 → A2 18 (t + q) = (A1 19 (q / 4) >>> (nI (24 - 8 * (q % 4)) &&& 31)).toInt8.toInt32) := by
  intro n
  induction n with
  | zero => intro p A1 h1 h2; omega
  | succ n ih =>
    intro p A1 h1 h2
    rw [lX8_feed_55]
    by_cases hp : p = 20
    · subst hp
      rw [if_pos (by decide)]
      exact ⟨A1, rfl, fun _ _ => rfl, fun _ _ => rfl, fun q h3 h4 => by omega⟩
    · rw [if_neg (by rw [show (20 : Int32) = nI 20 from rfl, nn_le (by omega) (by omega)]; omega)]
      rw [e20, nI_add, show nI p / (4 : Int32) = nI (p / 4) from pk_div (by omega) (by decide) (by decide)]
      rw [show nI p - nI (p / 4) * (4 : Int32) = nI (p % 4) by rw [← pk_rem (a := p) (d := 4) (by omega) (by decide) (by decide), pk_div (by omega) (by decide) (by decide)]; rfl]
      rw [show (24 : Int32) - (8 : Int32) * nI (p % 4) = nI (24 - 8 * (p % 4)) by rw [show (8 : Int32) = nI 8 from rfl, show (24 : Int32) = nI 24 from rfl, pk_mul, pk_sub (by omega)]]
      rw [ck, if_pos (inB_n (by omega) (by decide)), ck, if_pos (inB_n (by omega) (by decide)), ix_n (by omega), ix_n (by omega)]
      show ∃ A2, lX8_feed_55 n (nI p + 1) I1 J1 (va_up A1 18 (upd (A1 18) (t + p) (vp_nar .byte _))) B1 = some A2 ∧ _
      rw [pk_vb, nI_1]
      obtain ⟨A2, q1, q2, q3, q4⟩ := ih (p + 1) (va_up A1 18 (upd (A1 18) (t + p) ((A1 19 (p / 4) >>> (nI (24 - 8 * (p % 4)) &&& 31)).toInt8.toInt32))) (by omega) (by omega)
      refine ⟨A2, q1, fun a ha => by rw [q2 a ha, va_up_ne _ _ ha], fun j hj => ?_, fun q h3 h4 => ?_⟩
      · rw [q3 j (by omega), va_up_self, upd_n _ _ (by omega)]
      · by_cases e : q = p
        · subst e; rw [q3 _ (by omega), va_up_self, upd_s]
        · rw [q4 q (by omega) h4, va_up_ne _ _ (by decide)]
def wb_w (d : Nat) : Int32 := match d with | 0 => -8 | d + 1 => nI (8 * d)
theorem wb_s : ∀ d, d < 4 → wb_w (d + 1) + (-8) = wb_w d := by decide +kernel
theorem wb_7 {x : Int32} : ∀ (d n : Nat) (I : Nat → Int32) (A : Nat → Nat → Int32) (k : Nat), d ≤ 4 → d < n → I 7 = nI k → k + d ≤ 400 → ∃ I2 A2, lX7_writeBytes_3 n x (wb_w d) I J A B = some (.inr (I2, A2)) ∧ I2 7 = nI (k + d) ∧ (∀ j, ¬ j = 7 → I2 j = I j) ∧ (∀ a, ¬ a = 6 → A2 a = A a) ∧ (∀ j, j < k → A2 6 j = A 6 j) ∧ (∀ r, r < d → A2 6 (k + r) = ushr x (nI (8 * (d - 1 - r))) &&& 255) := by
  intro d
  induction d with
  | zero =>
    intro n I A k _ hn e7 hk
    obtain ⟨m, rfl⟩ : ∃ m, n = m + 1 := ⟨n - 1, by omega⟩
    rw [lX7_writeBytes_3, if_pos (by decide)]
    exact ⟨I, A, rfl, e7, fun _ _ => rfl, fun _ _ => rfl, fun _ _ => rfl, fun r hr => by omega⟩
  | succ d ih =>
    intro n I A k hd hn e7 hk
    obtain ⟨m, rfl⟩ : ∃ m, n = m + 1 := ⟨n - 1, by omega⟩
    rw [lX7_writeBytes_3, wb_s d (by omega), show wb_w (d + 1) = nI (8 * d) from rfl, if_neg (nI_n0 (by omega)), e7, if_pos (by rw [show (400 : Int32) = nI 400 from rfl, nn_lt (by omega) (by decide)]; omega), ck, if_pos (inB_n (by omega) (by decide)), ix_n (by omega)]
    show ∃ I2 A2, lX7_writeBytes_3 m x (wb_w d) (upd I 7 (nI k + 1)) J (va_up A 6 (upd (A 6) k (ushr x (nI (8 * d)) &&& 255))) B = some (.inr (I2, A2)) ∧ _
    rw [nI_1]
    obtain ⟨I2, A2, q1, q2, q3, q4, q5, q6⟩ := ih m (upd I 7 (nI (k + 1))) (va_up A 6 (upd (A 6) k (ushr x (nI (8 * d)) &&& 255))) (k + 1) (by omega) (by omega) (upd_s _ _ _) (by omega)
    refine ⟨I2, A2, q1, by rw [q2]; congr 1; omega, fun j hj => by rw [q3 j hj, upd_n _ _ hj], fun a ha => by rw [q4 a ha, va_up_ne _ _ ha], fun j hj => ?_, fun r hr => ?_⟩
    · rw [q5 j (by omega), va_up_self, upd_n _ _ (by omega)]
    · by_cases e : r = 0
      · subst e; rw [Nat.add_zero, q5 k (by omega), va_up_self, upd_s]; rfl
      · obtain ⟨r, rfl⟩ : ∃ m, r = m + 1 := ⟨r - 1, by omega⟩
        have := q6 r (by omega)
        rw [show k + 1 + r = k + (r + 1) by omega] at this
        rw [this, show d + 1 - 1 - (r + 1) = d - 1 - r by omega]
theorem wb_4 (x : Int32) {I : Nat → Int32} {A : Nat → Nat → Int32} {k : Nat} (e7 : I 7 = nI k) (hk : k + 4 ≤ 400) : ∃ I2 A2, sX7_writeBytes x I J A B = some (I2, A2) ∧ I2 7 = nI (k + 4) ∧ (∀ j, ¬ j = 7 → I2 j = I j) ∧ (∀ a, ¬ a = 6 → A2 a = A a) ∧ (∀ j, j < k → A2 6 j = A 6 j) ∧ (∀ r, r < 4 → A2 6 (k + r) = ushr x (nI (24 - 8 * r)) &&& 255) := by
  obtain ⟨I2, A2, q1, q2, q3, q4, q5, q6⟩ := wb_7 (x := x) (J := J) (B := B) 4 FU I A k (by omega) (by unfold FU; omega) e7 hk
  have q1 : lX7_writeBytes_3 FU x 24 I J A B = some (.inr (I2, A2)) := q1
  refine ⟨I2, A2, by unfold sX7_writeBytes; rw [q1]; rfl, q2, q3, q4, q5, fun r hr => ?_⟩
  rw [q6 r hr, show 8 * (4 - 1 - r) = 24 - 8 * r by omega]
theorem ps_feed (hX : XE X) : PS_feed (RE X G) := by
  intro x1 x2 x3 x4 x5 I J A B T M I1 J1 A1 B1 hr
  obtain ⟨h1, h2, ⟨e7, t, ht, et, hc⟩, h4, h5, h6, h7, h8⟩ := hr
  refine fin_2 ?_
  unfold sX7_feed sX8_feed
  rw [← e7]
  refine rb_if Iff.rfl (fun g _ => ?_) (fun _ _ => rb_some ⟨rfl, h1, h2, ⟨e7, t, ht, et, hc⟩, h4, h5, h6, h7, h8⟩)
  rw [et, show (20 : Int32) = nI 20 from rfl, nI_add, show (400 : Int32) = nI 400 from rfl, nn_le (by omega) (by decide)] at g
  obtain ⟨Ia, Aa, a1, a2, a3, a4, a5, a6⟩ := wb_4 (J := J) (B := B) (A := A) x1 et (by omega)
  refine rl_bind a1 ?_
  obtain ⟨Ib, Ab, b1, b2, b3, b4, b5, b6⟩ := wb_4 (J := J) (B := B) (A := Aa) x2 a2 (by omega)
  refine rl_bind b1 ?_
  obtain ⟨Ic, Ac, c1, c2, c3, c4, c5, c6⟩ := wb_4 (J := J) (B := B) (A := Ab) x3 b2 (by omega)
  refine rl_bind c1 ?_
  obtain ⟨Id, Ad, d1, d2, d3, d4, d5, d6⟩ := wb_4 (J := J) (B := B) (A := Ac) x4 c2 (by omega)
  refine rl_bind d1 ?_
  obtain ⟨Ie, Ae, f1, f2, f3, f4, f5, f6⟩ := wb_4 (J := J) (B := B) (A := Ad) x5 d2 (by omega)
  refine rl_bind f1 ?_
  refine rr_gv (rr_gv (rr_gv (rr_gv (rr_gv ?_))))
  have e20 : I1 20 = nI t := e7.symm.trans et
  obtain ⟨A2, g1, g2, g3, g4⟩ := fd_8 (J1 := J1) (B1 := B1) (I1 := I1) g e20 FU 0 (va_up (va_up (va_up (va_up (va_up A1 19 (upd (A1 19) (ix 0) x1)) 19 (upd ((va_up A1 19 (upd (A1 19) (ix 0) x1)) 19) (ix 1) x2)) 19 (upd ((va_up (va_up A1 19 (upd (A1 19) (ix 0) x1)) 19 (upd ((va_up A1 19 (upd (A1 19) (ix 0) x1)) 19) (ix 1) x2)) 19) (ix 2) x3)) 19 (upd ((va_up (va_up (va_up A1 19 (upd (A1 19) (ix 0) x1)) 19 (upd ((va_up A1 19 (upd (A1 19) (ix 0) x1)) 19) (ix 1) x2)) 19 (upd ((va_up (va_up A1 19 (upd (A1 19) (ix 0) x1)) 19 (upd ((va_up A1 19 (upd (A1 19) (ix 0) x1)) 19) (ix 1) x2)) 19) (ix 2) x3)) 19) (ix 3) x4)) 19 (upd ((va_up (va_up (va_up (va_up A1 19 (upd (A1 19) (ix 0) x1)) 19 (upd ((va_up A1 19 (upd (A1 19) (ix 0) x1)) 19) (ix 1) x2)) 19 (upd ((va_up (va_up A1 19 (upd (A1 19) (ix 0) x1)) 19 (upd ((va_up A1 19 (upd (A1 19) (ix 0) x1)) 19) (ix 1) x2)) 19) (ix 2) x3)) 19 (upd ((va_up (va_up (va_up A1 19 (upd (A1 19) (ix 0) x1)) 19 (upd ((va_up A1 19 (upd (A1 19) (ix 0) x1)) 19) (ix 1) x2)) 19 (upd ((va_up (va_up A1 19 (upd (A1 19) (ix 0) x1)) 19 (upd ((va_up A1 19 (upd (A1 19) (ix 0) x1)) 19) (ix 1) x2)) 19) (ix 2) x3)) 19) (ix 3) x4)) 19) (ix 4) x5)) (by unfold FU; omega) (by omega)
  refine rr_bind g1 (rr_gv (rb_some ?_))
  have z : ∀ a, ¬ a = 18 → ¬ a = 19 → A2 a = A1 a := fun a h8 h9 => by rw [g2 a h8, va_up_ne _ _ h9, va_up_ne _ _ h9, va_up_ne _ _ h9, va_up_ne _ _ h9, va_up_ne _ _ h9]
  have z18 : ∀ j, j < t → A2 18 j = A1 18 j := fun j hj => by rw [g3 j (by omega), va_up_ne _ _ (by decide), va_up_ne _ _ (by decide), va_up_ne _ _ (by decide), va_up_ne _ _ (by decide), va_up_ne _ _ (by decide)]
  have zI : ∀ j, ¬ j = 7 → Ie j = I j := fun j hj => by rw [f3 j hj, d3 j hj, c3 j hj, b3 j hj, a3 j hj]
  have zA : ∀ a, ¬ a = 6 → Ae a = A a := fun a ha => by rw [f4 a ha, d4 a ha, c4 a ha, b4 a ha, a4 a ha]
  have ei : (upd I1 20 (I 7 + 20)) 20 = nI (t + 20) := by rw [upd_s, et, show (20 : Int32) = nI 20 from rfl, nI_add]
  refine ⟨by show Ie 7 = (upd I1 20 (I 7 + 20)) 20; rw [ei]; exact f2, ?_⟩
  show RE X G Ie J Ae B T M (upd I1 20 (I 7 + 20)) J1 A2 B1
  refine ⟨SR_ext hX (fun k k1 k2 => zI k (by omega)) (fun a k1 k2 j => by rw [zA a (by omega)]) (fun j _ => by rw [z 1 (by decide) (by decide)]) h1, fun k hk => ?_, ⟨?_, t + 20, by omega, f2, fun j hj => ?_⟩, ?_, ?_, ?_, ?_, ?_⟩
  · rw [z 3 (by decide) (by decide), z 2 (by decide) (by decide)]; exact h2 k hk
  · rw [ei]; exact f2
  · by_cases hj2 : j < t
    · rw [z18 j hj2, f5 j (by omega), d5 j (by omega), c5 j (by omega), b5 j (by omega), a5 j (by omega)]
      exact hc j hj2
    · obtain ⟨q, rfl⟩ : ∃ q, j = t + q := ⟨j - t, by omega⟩
      rw [g4 q (by omega) (by omega), by_e _ (by omega)]
      have hv : ∃ y, Ae 6 (t + q) = ushr y (nI (24 - 8 * (q % 4))) &&& 255 ∧ (va_up (va_up (va_up (va_up (va_up A1 19 (upd (A1 19) (ix 0) x1)) 19 (upd ((va_up A1 19 (upd (A1 19) (ix 0) x1)) 19) (ix 1) x2)) 19 (upd ((va_up (va_up A1 19 (upd (A1 19) (ix 0) x1)) 19 (upd ((va_up A1 19 (upd (A1 19) (ix 0) x1)) 19) (ix 1) x2)) 19) (ix 2) x3)) 19 (upd ((va_up (va_up (va_up A1 19 (upd (A1 19) (ix 0) x1)) 19 (upd ((va_up A1 19 (upd (A1 19) (ix 0) x1)) 19) (ix 1) x2)) 19 (upd ((va_up (va_up A1 19 (upd (A1 19) (ix 0) x1)) 19 (upd ((va_up A1 19 (upd (A1 19) (ix 0) x1)) 19) (ix 1) x2)) 19) (ix 2) x3)) 19) (ix 3) x4)) 19 (upd ((va_up (va_up (va_up (va_up A1 19 (upd (A1 19) (ix 0) x1)) 19 (upd ((va_up A1 19 (upd (A1 19) (ix 0) x1)) 19) (ix 1) x2)) 19 (upd ((va_up (va_up A1 19 (upd (A1 19) (ix 0) x1)) 19 (upd ((va_up A1 19 (upd (A1 19) (ix 0) x1)) 19) (ix 1) x2)) 19) (ix 2) x3)) 19 (upd ((va_up (va_up (va_up A1 19 (upd (A1 19) (ix 0) x1)) 19 (upd ((va_up A1 19 (upd (A1 19) (ix 0) x1)) 19) (ix 1) x2)) 19 (upd ((va_up (va_up A1 19 (upd (A1 19) (ix 0) x1)) 19 (upd ((va_up A1 19 (upd (A1 19) (ix 0) x1)) 19) (ix 1) x2)) 19) (ix 2) x3)) 19) (ix 3) x4)) 19) (ix 4) x5)) 19 (q / 4) = y := by
        refine ⟨_, ?_, rfl⟩
        rcases (by omega : q / 4 = 0 ∨ q / 4 = 1 ∨ q / 4 = 2 ∨ q / 4 = 3 ∨ q / 4 = 4) with e | e | e | e | e <;> rw [e]
        · rw [f5 _ (by omega), d5 _ (by omega), c5 _ (by omega), b5 _ (by omega), show t + q = t + q % 4 by omega, a6 _ (by omega)]; rfl
        · rw [f5 _ (by omega), d5 _ (by omega), c5 _ (by omega), show t + q = t + 4 + q % 4 by omega, b6 _ (by omega)]; rfl
        · rw [f5 _ (by omega), d5 _ (by omega), show t + q = t + 4 + 4 + q % 4 by omega, c6 _ (by omega)]; rfl
        · rw [f5 _ (by omega), show t + q = t + 4 + 4 + 4 + q % 4 by omega, d6 _ (by omega)]; rfl
        · rw [show t + q = t + 4 + 4 + 4 + 4 + q % 4 by omega, f6 _ (by omega)]; rfl
      obtain ⟨y, v1, v2⟩ := hv
      rw [v2, v1]
      refine ⟨rfl, ?_⟩
      obtain ⟨b, hb, eb⟩ := an_255 (ushr y (nI (24 - 8 * (q % 4))))
      rw [eb]
      exact bt_n (by omega) (by omega) (by omega)
  · rw [zI 73 (by decide), zA 72 (by decide), z 40 (by decide) (by decide)]; exact h4
  · rw [zI 75 (by decide), zA 74 (by decide), z 44 (by decide) (by decide)]; exact h5
  · rw [zI 8 (by decide)]; exact h6
  · rw [zI 9 (by decide)]; exact h7
  · rw [z 17 (by decide) (by decide)]; exact h8
end P15
