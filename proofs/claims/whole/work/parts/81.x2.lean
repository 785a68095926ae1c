/-- a number's value as the reference counts it, behind c digits -/
def nf (tp : Nat → Nat) (p : Nat) : Nat → Nat
  | 0 => 0
  | c + 1 => if 1000000 < nf tp p c then nf tp p c else 10 * nf tp p c + (tp (p + c) - 48)
theorem nf_b {tp : Nat → Nat} {p : Nat} : ∀ c, (∀ i, i < c → tp (p + i) ≤ 57) → nf tp p c ≤ 10000009 := by
  intro c
  induction c with
  | zero => intro _; exact Nat.zero_le _
  | succ c ih =>
    intro h
    rw [nf]
    have h1 := ih (fun i hi => h i (by omega))
    have h2 := h c (by omega)
    split <;> omega
theorem dg_b {b : Nat} (h : dg8 b = true) : 48 ≤ b ∧ b ≤ 57 := by
  unfold dg8 at h
  exact ⟨of_decide_eq_true (Bool.and_eq_true_iff.mp h).1, of_decide_eq_true (Bool.and_eq_true_iff.mp h).2⟩
theorem lt_b {b : Nat} (h : lt8 b = true) : 97 ≤ b ∧ b ≤ 122 := by
  unfold lt8 at h
  exact ⟨of_decide_eq_true (Bool.and_eq_true_iff.mp h).1, of_decide_eq_true (Bool.and_eq_true_iff.mp h).2⟩
/-- the token that begins at p: its code and value -/
def TOK (tp : Nat → Nat) (z p : Nat) (c v : Int32) : Prop := (lt8 (tp p) = true ∧ ∃ x, WX tp p (te tp z p) x ∧ c = nI x ∧ v = 0) ∨ (lt8 (tp p) = false ∧ dg8 (tp p) = true ∧ c = 50 ∧ v = nI (nf tp p (te tp z p - p))) ∨ (lt8 (tp p) = false ∧ dg8 (tp p) = false ∧ c = nI (100 + tp p) ∧ v = 0)
section X2
variable {I I1 : Nat → Int32} {J J1 : Nat → Int64} {A A1 : Nat → Nat → Int32} {B B1 : Nat → Nat → Int64} {tp : Nat → Nat} {z p e : Nat}
theorem c43 (ht : TP tp z A A1) {x2 x3 : Int32} : ∀ (f q : Nat), z < q + f → q ≤ z → lX8_cuts_43 f (nI z) x2 x3 (nI q) I1 J1 A1 B1 = some (nI (rn lt8 tp z q)) := by
  have hz := ht.1
  intro f
  induction f with
  | zero => intro q h1 h2; omega
  | succ f ih =>
    intro q h1 h2
    rw [lX8_cuts_43]
    by_cases c : q = z
    · subst c
      rw [if_pos ((nn_le (by omega) (by omega)).mpr (Nat.le_refl _)), rn_e (Nat.le_refl _)]
    · obtain ⟨t1, -, t3⟩ := ht.2 q (by omega)
      rw [if_neg (by rw [nn_le (by omega) (by omega)]; omega), ck, if_pos (inB_n (by omega) (by decide)), ix_n (by omega), t3, (tb_1 _ t1).2.1]
      dsimp only [gv, Option.bind_some]
      by_cases y : lt8 (tp q) = true
      · rw [if_pos y, if_neg (by decide), nI_1, ih (q + 1) (by omega) (by omega), rn_y (by omega) y]
      · rw [if_neg y, if_pos rfl, rn_n y]
theorem c75 (ht : TP tp z A A1) {x2 x3 : Int32} : ∀ (f q : Nat), z < q + f → q ≤ z → lX8_cuts_75 f (nI z) x2 x3 (nI q) I1 J1 A1 B1 = some (nI (rn dg8 tp z q)) := by
  have hz := ht.1
  intro f
  induction f with
  | zero => intro q h1 h2; omega
  | succ f ih =>
    intro q h1 h2
    rw [lX8_cuts_75]
    by_cases c : q = z
    · subst c
      rw [if_pos ((nn_le (by omega) (by omega)).mpr (Nat.le_refl _)), rn_e (Nat.le_refl _)]
    · obtain ⟨t1, -, t3⟩ := ht.2 q (by omega)
      rw [if_neg (by rw [nn_le (by omega) (by omega)]; omega), ck, if_pos (inB_n (by omega) (by decide)), ix_n (by omega), t3, (tb_1 _ t1).2.2.2.1]
      dsimp only [gv, Option.bind_some]
      by_cases y : dg8 (tp q) = true
      · rw [if_pos y, if_neg (by decide), nI_1, ih (q + 1) (by omega) (by omega), rn_y (by omega) y]
      · rw [if_neg y, if_pos rfl, rn_n y]
theorem c169 {k : Nat} (h18 : ∀ i, i < z → tp i < 256 ∧ A1 18 i = (nI (tp i)).toInt8.toInt32) (hz : z ≤ 400) (hez : e ≤ z) (hpz : p < e) (hd : ∀ i, p ≤ i → i < e → dg8 (tp i) = true) (e25 : I1 25 = nI k) (hk : k < 401) : ∀ (f i : Nat) (A' : Nat → Nat → Int32), e < i + f → p ≤ i → i ≤ e → (∀ a, ¬ a = 23 → A' a = A1 a) → A' 23 k = nI (nf tp p (i - p)) → ∃ A2, lX8_cuts_169 f (nI z) ((nI (tp p)).toInt8.toInt32) (nI e) (nI i) I1 J1 A' B1 = some A2 ∧ (∀ a, ¬ a = 23 → A2 a = A1 a) ∧ (∀ q, ¬ q = k → A2 23 q = A' 23 q) ∧ A2 23 k = nI (nf tp p (e - p)) := by
  intro f
  induction f with
  | zero => intro i A' h1 h2 h3; omega
  | succ f ih =>
    intro i A' h1 h2 h3 hA h23
    rw [lX8_cuts_169]
    by_cases c : i = e
    · subst c
      rw [if_pos ((nn_le (by omega) (by omega)).mpr (Nat.le_refl _))]
      exact ⟨A', rfl, hA, fun _ _ => rfl, h23⟩
    · have hb : nf tp p (i - p) ≤ 10000009 := nf_b _ (fun q hq => (dg_b (hd (p + q) (by omega) (by omega))).2)
      obtain ⟨t1, t3⟩ := h18 i (by omega)
      have hdi := dg_b (hd i h2 (by omega))
      rw [if_neg (by rw [nn_le (by omega) (by omega)]; omega), (tb_1 _ (h18 p (by omega)).1).2.2.2.1, hd p (Nat.le_refl _) hpz]
      dsimp only [gv, Option.bind_some]
      rw [if_pos rfl, if_neg (show ¬ (1 : Int32) = 0 by decide), e25, ix_n (show k < 2 ^ 31 by omega), h23, ix_n (show i < 2 ^ 31 by omega), nI_1, hA 18 (by decide), t3, (tb_1 _ t1).2.2.2.2.2.2.2 (by omega)]
      simp only [ck, if_pos (inB_n hk (by decide)), if_pos (inB_n (show i < 400 by omega) (by decide))]
      have fin : ∀ x, x = nf tp p (i + 1 - p) → ∃ A2, lX8_cuts_169 f (nI z) ((nI (tp p)).toInt8.toInt32) (nI e) (nI (i + 1)) I1 J1 (va_up A' 23 (upd (A' 23) k (nI x))) B1 = some A2 ∧ (∀ a, ¬ a = 23 → A2 a = A1 a) ∧ (∀ q, ¬ q = k → A2 23 q = A' 23 q) ∧ A2 23 k = nI (nf tp p (e - p)) := by
        intro x hx
        obtain ⟨A2, q1, q2, q3, q4⟩ := ih (i + 1) (va_up A' 23 (upd (A' 23) k (nI x))) (by omega) (by omega) (by omega) (fun a ha => by rw [va_up_ne _ _ ha]; exact hA a ha) (by rw [va_up_self, upd_s, hx])
        exact ⟨A2, q1, q2, fun q hq => by rw [q3 q hq, va_up_self, upd_n _ _ hq], q4⟩
      have hs : nf tp p (i + 1 - p) = if 1000000 < nf tp p (i - p) then nf tp p (i - p) else 10 * nf tp p (i - p) + (tp i - 48) := by
        rw [show i + 1 - p = (i - p) + 1 by omega, nf, show p + (i - p) = i by omega]
      by_cases y : nf tp p (i - p) ≤ 1000000
      · rw [if_pos (by rw [show (1000000 : Int32) = nI 1000000 from rfl, nn_le (by omega) (by decide)]; exact y)]
        rw [show (10 : Int32) * nI (nf tp p (i - p)) + nI (tp i) - 48 = nI (10 * nf tp p (i - p) + (tp i - 48)) by
          rw [show (10 : Int32) = nI 10 from rfl, show (48 : Int32) = nI 48 from rfl, pk_mul, nI_add, pk_sub (by omega)]
          congr 1
          omega]
        exact fin _ (by rw [hs, if_neg (by omega)])
      · rw [if_neg (by rw [show (1000000 : Int32) = nI 1000000 from rfl, nn_le (by omega) (by decide)]; exact y)]
        exact fin _ (by rw [hs, if_pos (by omega)])
/-- what the reference has cut -/
def CUT (tp : Nat → Nat) (z k : Nat) (A : Nat → Nat → Int32) : Prop := ∀ i, i < k → st8 tp z i < z ∧ A 24 i = nI (st8 tp z i) ∧ TOK tp z (st8 tp z i) (A 22 i) (A 23 i)
theorem cu_7 (ht : TP tp z A A1) (h17 : ∀ j, j < 107 → A1 17 j = mwf 107 j) : ∀ (f p k : Nat) (I' : Nat → Int32) (A' : Nat → Nat → Int32), z < p + f → p ≤ z → k ≤ p → rn bl8 tp z p = st8 tp z k → (∀ q, ¬ q = 25 → I' q = I1 q) → I' 25 = nI k → (∀ a, ¬ a = 22 → ¬ a = 23 → ¬ a = 24 → A' a = A1 a) → CUT tp z k A' → SP (lX8_cuts_7 f (nI z) (nI p) I' J1 A' B1) (fun a => ∃ n, n ≤ z ∧ st8 tp z n = z ∧ (∀ q, ¬ q = 25 → a.1 q = I1 q) ∧ a.1 25 = nI n ∧ (∀ b, ¬ b = 22 → ¬ b = 23 → ¬ b = 24 → a.2 b = A1 b) ∧ CUT tp z n a.2) := by
  have hz := ht.1
  intro f
  induction f with
  | zero => intro p k I' A' h1 h2; omega
  | succ f ih =>
    intro p k I' A' h1 h2 hk hst hI h25 hA hcut
    rw [lX8_cuts_7]
    by_cases c : p = z
    · refine sp_t (by rw [c]; exact (nn_le (by omega) (by omega)).mpr (Nat.le_refl _)) (sp_some ⟨k, by omega, ?_, hI, h25, hA, hcut⟩)
      rw [← hst, c]
      exact rn_e (Nat.le_refl _)
    · obtain ⟨t1, -, t3⟩ := ht.2 p (by omega)
      have tb := tb_1 _ t1
      refine sp_f (by rw [nn_le (by omega) (by omega)]; omega) ?_
      refine sp_ck (inB_n (by omega) (by decide)) ?_
      rw [ix_n (show p < 2 ^ 31 by omega), hA 18 (by decide) (by decide) (by decide), t3, nI_1]
      refine sp_gv ?_
      by_cases hb : bl8 (tp p) = true
      · refine sp_t (tb.2.2.2.2.2.1.mpr hb) (sp_gv ?_)
        exact ih (p + 1) k I' A' (by omega) (by omega) (by omega) (by rw [← rn_y (by omega) hb]; exact hst) hI h25 hA hcut
      · refine sp_f (fun q => hb (tb.2.2.2.2.2.1.mp q)) (sp_gv ?_)
        have hsp : st8 tp z k = p := by rw [← hst]; exact rn_n hb
        have hlz : st8 tp z k < z := by omega
        have htb := te_b (tp := tp) (z := z) (p := p) (by omega)
        have hst' : rn bl8 tp z (te tp z p) = st8 tp z (k + 1) := by rw [st8, if_pos hlz, hsp]
        refine sp_bind tb.2.1 ?_
        refine sp_gv ?_
        -- the tail: the token's end and code are known
        have tail : ∀ (cd : Int32) (vl : Int32), (lt8 (tp p) = true → ∃ x, WX tp p (te tp z p) x ∧ cd = nI x) → (lt8 (tp p) = false → dg8 (tp p) = true → cd = 50) → (lt8 (tp p) = false → dg8 (tp p) = false → cd = nI (100 + tp p)) → SP ((fun (y2_j165 : Int32) (I : Nat → Int32) (A : Nat → Nat → Int32) => ck (inB (I 25) 401) <| gv (va_up A 22 (upd (A 22) (ix (I 25)) y2_j165)) fun A => (lX8_cuts_169 FU (nI z) ((nI (tp p)).toInt8.toInt32) (nI (te tp z p)) (nI p) I J1 A B1).bind fun A => gv (upd I 25 ((I 25) + 1)) fun I => lX8_cuts_7 f (nI z) (nI (te tp z p)) I J1 A B1) cd I' (va_up (va_up A' 24 (upd (A' 24) k (nI p))) 23 (upd ((va_up A' 24 (upd (A' 24) k (nI p))) 23) k 0))) (fun a => ∃ n, n ≤ z ∧ st8 tp z n = z ∧ (∀ q, ¬ q = 25 → a.1 q = I1 q) ∧ a.1 25 = nI n ∧ (∀ b, ¬ b = 22 → ¬ b = 23 → ¬ b = 24 → a.2 b = A1 b) ∧ CUT tp z n a.2) := by
          intro cd _ c1 c2 c3
          dsimp only
          rw [h25, ix_n (show k < 2 ^ 31 by omega), nI_1]
          refine sp_ck (inB_n (by omega) (by decide)) ?_
          refine sp_gvG (fun A2 hA2 => ?_)
          have a22 : ∀ q, A2 22 q = if q = k then cd else A' 22 q := fun q => by
            rw [hA2, va_up_self]
            by_cases y : q = k
            · rw [if_pos y, y, upd_s]
            · rw [if_neg y, upd_n _ _ y]; rfl
          have a24 : ∀ q, A2 24 q = if q = k then nI p else A' 24 q := fun q => by
            rw [hA2, va_up_ne _ _ (by decide), va_up_ne _ _ (by decide), va_up_self]
            by_cases y : q = k
            · rw [if_pos y, y, upd_s]
            · rw [if_neg y, upd_n _ _ y]
          have a23 : ∀ q, A2 23 q = if q = k then 0 else A' 23 q := fun q => by
            rw [hA2, va_up_ne _ _ (by decide), va_up_self]
            by_cases y : q = k
            · rw [if_pos y, y, upd_s]
            · rw [if_neg y, upd_n _ _ y]; rfl
          have aot : ∀ b, ¬ b = 22 → ¬ b = 23 → ¬ b = 24 → A2 b = A1 b := fun b b1 b2 b3 => by
            rw [hA2, va_up_ne _ _ b1, va_up_ne _ _ b2, va_up_ne _ _ b3]; exact hA b b1 b2 b3
          have fin : ∀ A3 : Nat → Nat → Int32, (∀ b, ¬ b = 23 → A3 b = A2 b) → (∀ q, ¬ q = k → A3 23 q = A2 23 q) → TOK tp z p cd (A3 23 k) → SP (gv (upd I' 25 (nI (k + 1))) fun I => lX8_cuts_7 f (nI z) (nI (te tp z p)) I J1 A3 B1) (fun a => ∃ n, n ≤ z ∧ st8 tp z n = z ∧ (∀ q, ¬ q = 25 → a.1 q = I1 q) ∧ a.1 25 = nI n ∧ (∀ b, ¬ b = 22 → ¬ b = 23 → ¬ b = 24 → a.2 b = A1 b) ∧ CUT tp z n a.2) := by
            intro A3 h3 h3k htok
            refine sp_gv ?_
            refine ih (te tp z p) (k + 1) _ A3 (by omega) htb.2 (by omega) hst' (fun q hq => by rw [upd_n _ _ hq]; exact hI q hq) (upd_s _ _ _) (fun b b1 b2 b3 => by rw [h3 b b2]; exact aot b b1 b2 b3) (fun i hi => ?_)
            rw [h3 24 (by decide), h3 22 (by decide), a24, a22]
            by_cases y : i = k
            · subst y
              rw [if_pos rfl, if_pos rfl, hsp]
              exact ⟨by omega, rfl, htok⟩
            · rw [if_neg y, if_neg y, h3k i y, a23, if_neg y]
              exact hcut i (by omega)
          by_cases hd : dg8 (tp p) = true
          · have hnl : lt8 (tp p) = false := by
              have := dg_b hd
              unfold lt8
              rw [decide_eq_false (by omega)]
              rfl
            have hte : te tp z p = rn dg8 tp z p := by unfold te; rw [if_neg (by rw [hnl]; decide), if_pos hd]
            have hrs := rn_s (P := dg8) (tp := tp) (z := z) _ p rfl (by omega)
            obtain ⟨A3, r1, r2, r3, r4⟩ := c169 (I1 := I') (J1 := J1) (B1 := B1) (A1 := A2) (p := p) (e := te tp z p) (k := k) (fun i hi => by rw [aot 18 (by decide) (by decide) (by decide)]; exact ⟨(ht.2 i hi).1, (ht.2 i hi).2.2⟩) hz htb.2 htb.1 (fun i i1 i2 => hrs.2.2.1 i i1 (by rw [← hte]; exact i2)) h25 (by omega) FU p A2 (by unfold FU; omega) (Nat.le_refl _) (by omega) (fun _ _ => rfl) (by rw [a23, if_pos rfl, Nat.sub_self]; rfl)
            refine sp_bind r1 ?_
            exact fin A3 r2 r3 (Or.inr (Or.inl ⟨hnl, hd, c2 hnl hd, r4⟩))
          · have r1 : lX8_cuts_169 FU (nI z) ((nI (tp p)).toInt8.toInt32) (nI (te tp z p)) (nI p) I' J1 A2 B1 = some A2 := by
              rw [show FU = 999999 + 1 from rfl, lX8_cuts_169, if_neg (by rw [nn_le (by omega) (by omega)]; omega), tb.2.2.2.1, if_neg hd]
              rfl
            refine sp_bind r1 ?_
            refine fin A2 (fun _ _ => rfl) (fun _ _ => rfl) ?_
            rw [a23, if_pos rfl]
            by_cases hl : lt8 (tp p) = true
            · obtain ⟨x, x1, x2⟩ := c1 hl
              exact Or.inl ⟨hl, x, x1, x2, rfl⟩
            · have hl' : lt8 (tp p) = false := by simpa using hl
              have hd' : dg8 (tp p) = false := by simpa using hd
              exact Or.inr (Or.inr ⟨hl', hd', c3 hl' hd', rfl⟩)
        have j18 : ∀ i, i < z → lt8 (tp p) = true → p ≤ i → i < te tp z p → lt8 (tp i) = true := fun i hi hl i1 i2 => by
          have hrs := rn_s (P := lt8) (tp := tp) (z := z) _ p rfl (by omega)
          have hte : te tp z p = rn lt8 tp z p := by unfold te; rw [if_pos hl]
          exact hrs.2.2.1 i i1 (by rw [← hte]; exact i2)
        cases hl : lt8 (tp p) with
        | true =>
          have hte : te tp z p = rn lt8 tp z p := by unfold te; rw [if_pos hl]
          refine sp_f (by rw [if_pos rfl]; decide) ?_
          refine sp_bind (c43 (A := A) ⟨hz, fun i hi => ⟨(ht.2 i hi).1, (ht.2 i hi).2.1, by rw [hA 18 (by decide) (by decide) (by decide)]; exact (ht.2 i hi).2.2⟩⟩ FU (p + 1) (by unfold FU; omega) (by omega)) ?_
          rw [← rn_y (by omega) hl, ← hte]
          have hnd : dg8 (tp p) = false := by
            have := lt_b hl
            unfold dg8
            rw [show decide (tp p ≤ 57) = false from decide_eq_false (by omega), Bool.and_false]
          refine sp_bind (by rw [tb.2.2.2.1, hnd]) ?_
          refine sp_gv ?_
          refine sp_t (by rw [if_neg (by decide)]) ?_
          refine sp_ck (by rw [h25]; exact inB_n (by omega) (by decide)) ?_
          refine sp_gvE (show va_up A' 24 (upd (A' 24) (ix (I' 25)) (nI p)) = va_up A' 24 (upd (A' 24) k (nI p)) by rw [h25, ix_n (show k < 2 ^ 31 by omega)]) ?_
          refine sp_ck (by rw [h25]; exact inB_n (by omega) (by decide)) ?_
          refine sp_gvE (show va_up (va_up A' 24 (upd (A' 24) k (nI p))) 23 (upd ((va_up A' 24 (upd (A' 24) k (nI p))) 23) (ix (I' 25)) 0) = va_up (va_up A' 24 (upd (A' 24) k (nI p))) 23 (upd ((va_up A' 24 (upd (A' 24) k (nI p))) 23) k 0) by rw [h25, ix_n (show k < 2 ^ 31 by omega)]) ?_
          refine sp_bind (by rw [tb.2.1, hl]) ?_
          refine sp_gv ?_
          refine sp_f (by rw [if_pos rfl]; decide) ?_
          obtain ⟨x, x1, x2⟩ := wx_8 (I1 := I') (J1 := J1) (B1 := B1) (A := A) (A1 := va_up (va_up A' 24 (upd (A' 24) k (nI p))) 23 (upd ((va_up A' 24 (upd (A' 24) k (nI p))) 23) k 0)) (tp := tp) (z := z) (p := p) (e := te tp z p) ⟨hz, fun i hi => ⟨(ht.2 i hi).1, (ht.2 i hi).2.1, by rw [va_up_ne _ _ (by decide), va_up_ne _ _ (by decide), hA 18 (by decide) (by decide) (by decide)]; exact (ht.2 i hi).2.2⟩⟩ (fun j hj => by rw [va_up_ne _ _ (by decide), va_up_ne _ _ (by decide), hA 17 (by decide) (by decide) (by decide)]; exact h17 j hj) (by omega) htb.2 (fun i i1 i2 => j18 i (by omega) hl i1 i2)
          refine sp_bind x1 ?_
          exact tail (nI x) 0 (fun _ => ⟨x, x2, rfl⟩) (fun q => by rw [hl] at q; cases q) (fun q => by rw [hl] at q; cases q)
        | false =>
          refine sp_t (by rw [if_neg (by decide)]) ?_
          refine sp_bind tb.2.2.2.1 ?_
          refine sp_gv ?_
          -- both roads write the place and go to the tail
          have mid : ∀ cd : Int32, (lt8 (tp p) = false → dg8 (tp p) = true → cd = 50) → (lt8 (tp p) = false → dg8 (tp p) = false → cd = nI (100 + tp p)) → SP ((fun (y2_j165 : Int32) (I : Nat → Int32) (A : Nat → Nat → Int32) => ck (inB (I 25) 401) <| gv (va_up A 22 (upd (A 22) (ix (I 25)) y2_j165)) fun A => (lX8_cuts_169 FU (nI z) ((nI (tp p)).toInt8.toInt32) (nI (te tp z p)) (nI p) I J1 A B1).bind fun A => gv (upd I 25 ((I 25) + 1)) fun I => lX8_cuts_7 f (nI z) (nI (te tp z p)) I J1 A B1) cd I' (va_up (va_up A' 24 (upd (A' 24) k (nI p))) 23 (upd ((va_up A' 24 (upd (A' 24) k (nI p))) 23) k 0))) (fun a => ∃ n, n ≤ z ∧ st8 tp z n = z ∧ (∀ q, ¬ q = 25 → a.1 q = I1 q) ∧ a.1 25 = nI n ∧ (∀ b, ¬ b = 22 → ¬ b = 23 → ¬ b = 24 → a.2 b = A1 b) ∧ CUT tp z n a.2) := fun cd c2 c3 => tail cd 0 (fun q => by rw [hl] at q; cases q) c2 c3
          cases hd : dg8 (tp p) with
          | true =>
            have hte : te tp z p = rn dg8 tp z p := by unfold te; rw [if_neg (by rw [hl]; decide), if_pos hd]
            refine sp_f (by rw [if_pos rfl]; decide) ?_
            refine sp_bind (c75 (A := A) ⟨hz, fun i hi => ⟨(ht.2 i hi).1, (ht.2 i hi).2.1, by rw [hA 18 (by decide) (by decide) (by decide)]; exact (ht.2 i hi).2.2⟩⟩ FU (p + 1) (by unfold FU; omega) (by omega)) ?_
            rw [← rn_y (by omega) hd, ← hte]
            refine sp_ck (by rw [h25]; exact inB_n (by omega) (by decide)) ?_
            refine sp_gvE (show va_up A' 24 (upd (A' 24) (ix (I' 25)) (nI p)) = va_up A' 24 (upd (A' 24) k (nI p)) by rw [h25, ix_n (show k < 2 ^ 31 by omega)]) ?_
            refine sp_ck (by rw [h25]; exact inB_n (by omega) (by decide)) ?_
            refine sp_gvE (show va_up (va_up A' 24 (upd (A' 24) k (nI p))) 23 (upd ((va_up A' 24 (upd (A' 24) k (nI p))) 23) (ix (I' 25)) 0) = va_up (va_up A' 24 (upd (A' 24) k (nI p))) 23 (upd ((va_up A' 24 (upd (A' 24) k (nI p))) 23) k 0) by rw [h25, ix_n (show k < 2 ^ 31 by omega)]) ?_
            refine sp_bind (by rw [tb.2.1, hl]) ?_
            refine sp_gv ?_
            refine sp_t (by rw [if_neg (by decide)]) ?_
            refine sp_bind (by rw [tb.2.2.2.1, hd]) ?_
            refine sp_f (by rw [if_pos rfl]; decide) ?_
            exact mid 50 (fun _ _ => rfl) (fun _ q => by rw [hd] at q; cases q)
          | false =>
            have hte : te tp z p = p + 1 := by unfold te; rw [if_neg (by rw [hl]; decide), if_neg (by rw [hd]; decide)]
            refine sp_t (by rw [if_neg (by decide)]) ?_
            rw [← hte]
            refine sp_ck (by rw [h25]; exact inB_n (by omega) (by decide)) ?_
            refine sp_gvE (show va_up A' 24 (upd (A' 24) (ix (I' 25)) (nI p)) = va_up A' 24 (upd (A' 24) k (nI p)) by rw [h25, ix_n (show k < 2 ^ 31 by omega)]) ?_
            refine sp_ck (by rw [h25]; exact inB_n (by omega) (by decide)) ?_
            refine sp_gvE (show va_up (va_up A' 24 (upd (A' 24) k (nI p))) 23 (upd ((va_up A' 24 (upd (A' 24) k (nI p))) 23) (ix (I' 25)) 0) = va_up (va_up A' 24 (upd (A' 24) k (nI p))) 23 (upd ((va_up A' 24 (upd (A' 24) k (nI p))) 23) k 0) by rw [h25, ix_n (show k < 2 ^ 31 by omega)]) ?_
            refine sp_bind (by rw [tb.2.1, hl]) ?_
            refine sp_gv ?_
            refine sp_t (by rw [if_neg (by decide)]) ?_
            refine sp_bind (by rw [tb.2.2.2.1, hd]) ?_
            refine sp_t (by rw [if_neg (by decide)]) ?_
            rw [tb.2.2.2.2.2.2.1, show (100 : Int32) + nI (tp p) = nI (100 + tp p) from nI_add 100 _]
            exact mid _ (fun _ q => by rw [hd] at q; cases q) (fun _ _ => rfl)
end X2
