/-- the class's token for the reference's code and value -/
def cT (c v : Int32) : Int32 := if c = 50 then (if v ≤ 100000 then -2 else -3) else if c = 0 then -3 else if c ≤ 7 then 255 + c else if c ≤ 11 then 265 + c else if c ≤ 21 then 251 + c else c - 100
/-- the tokens cut: n of them, codes, values, places (the end's too) -/
def TKS (tp : Nat → Nat) (z n : Nat) (tk vl : Nat → Int32) : Prop := n ≤ z ∧ st8 tp z n = z ∧ (∀ i, i < n → st8 tp z i < z ∧ TOK tp z (st8 tp z i) (tk i) (vl i)) ∧ tk n = 0
section X3
variable {I I1 : Nat → Int32} {J J1 : Nat → Int64} {A A1 : Nat → Nat → Int32} {B B1 : Nat → Nat → Int64} {tp : Nat → Nat} {z p e n : Nat} {tk vl : Nat → Int32}
theorem cuts_8 (ht : TP tp z A A1) (h17 : ∀ j, j < 107 → A1 17 j = mwf 107 j) : SP (sX8_cuts (nI z) I1 J1 A1 B1) (fun a => ∃ n, TKS tp z n (a.2 22) (a.2 23) ∧ (∀ i, i ≤ n → a.2 24 i = nI (st8 tp z i)) ∧ a.1 25 = nI n ∧ (∀ q, ¬ q = 25 → a.1 q = I1 q) ∧ ∀ b, ¬ b = 22 → ¬ b = 23 → ¬ b = 24 → a.2 b = A1 b) := by
  have hz := ht.1
  unfold sX8_cuts
  refine sp_gv ?_
  obtain ⟨⟨I2, A2⟩, q1, n, q2, q3, q4, q5, q6, q7⟩ := cu_7 (I1 := I1) (J1 := J1) (B1 := B1) ht h17 FU 0 0 (upd I1 25 0) A1 (by unfold FU; omega) (by omega) (by omega) rfl (fun q hq => upd_n _ _ hq) (upd_s _ _ _) (fun _ _ _ _ => rfl) (fun i hi => by omega)
  have q1 : lX8_cuts_7 FU (nI z) 0 (upd I1 25 0) J1 A1 B1 = some (I2, A2) := q1
  refine sp_bind q1 ?_
  have q5 : I2 25 = nI n := q5
  have q7 : CUT tp z n A2 := q7
  dsimp only
  rw [q5, ix_n (show n < 2 ^ 31 by omega)]
  refine sp_ck (inB_n (by omega) (by decide)) ?_
  refine sp_gv ?_
  refine sp_ck (inB_n (by omega) (by decide)) ?_
  refine sp_gv ?_
  refine sp_ck (inB_n (by omega) (by decide)) ?_
  refine sp_gv ?_
  refine sp_some ⟨n, ⟨q2, q3, fun i hi => ?_, ?_⟩, fun i hi => ?_, q5, q4, fun b b1 b2 b3 => ?_⟩
  · obtain ⟨c1, c2, c3⟩ := q7 i hi
    refine ⟨c1, ?_⟩
    show TOK tp z (st8 tp z i) (upd (A2 22) n 0 i) (upd (A2 23) n 0 i)
    rw [upd_n _ _ (by omega), upd_n _ _ (by omega)]
    exact c3
  · show upd (A2 22) n 0 n = 0
    exact upd_s _ _ _
  · show upd (A2 24) n (nI z) i = nI (st8 tp z i)
    by_cases c : i = n
    · subst c; rw [upd_s, q3]
    · rw [upd_n _ _ c]; exact (q7 i (by omega)).2.1
  · show va_up (va_up (va_up A2 24 _) 22 _) 23 _ b = A1 b
    rw [va_up_ne _ _ b2, va_up_ne _ _ b1, va_up_ne _ _ b3]
    exact q6 b b1 b2 b3
/-! the class goes on -/
theorem a0_7 (hz : z ≤ 400) (h6 : ∀ i, i < z → tp i < 256 ∧ A 6 i = nI (tp i)) : ∀ (f q : Nat) (I : Nat → Int32), z < q + f → q ≤ z → I 82 = nI z → I 83 = nI q → ∃ I2, lX3_advance_0 f I J A B = some I2 ∧ I2 83 = nI (rn bl8 tp z q) ∧ ∀ x, ¬ x = 83 → I2 x = I x := by
  intro f
  induction f with
  | zero => intro q I h1 h2; omega
  | succ f ih =>
    intro q I h1 h2 e82 e83
    rw [lX3_advance_0, e82, e83]
    by_cases c : q = z
    · subst c
      rw [if_pos ((nn_le (by omega) (by omega)).mpr (Nat.le_refl _)), rn_e (Nat.le_refl _)]
      exact ⟨I, rfl, e83, fun _ _ => rfl⟩
    · obtain ⟨t1, t2⟩ := h6 q (by omega)
      rw [if_neg (by rw [nn_le (by omega) (by omega)]; omega), ck, if_pos (inB_n (by omega) (by decide)), ix_n (by omega), t2]
      by_cases y : bl8 (tp q) = true
      · rw [if_pos ((tb_1 _ t1).2.2.2.2.1.mpr y)]
        dsimp only [gv]
        rw [nI_1]
        obtain ⟨I2, r1, r2, r3⟩ := ih (q + 1) (upd I 83 (nI (q + 1))) (by omega) (by omega) ((upd_n _ _ (by decide)).trans e82) (upd_s _ _ _)
        exact ⟨I2, r1, by rw [r2, rn_y (by omega) y], fun x hx => by rw [r3 x hx, upd_n _ _ hx]⟩
      · rw [if_neg (fun w => y ((tb_1 _ t1).2.2.2.2.1.mp w))]
        exact ⟨I, rfl, by rw [e83, rn_n y], fun _ _ => rfl⟩
theorem tw_7 (hz : z ≤ 400) (h6 : ∀ i, i < z → tp i < 256 ∧ A 6 i = nI (tp i)) : ∀ (f q : Nat) (I : Nat → Int32), z < q + f → q ≤ z → I 82 = nI z → I 83 = nI q → ∃ I2, lX3_takeWord_0 f I J A B = some I2 ∧ I2 83 = nI (rn lt8 tp z q) ∧ ∀ x, ¬ x = 83 → I2 x = I x := by
  intro f
  induction f with
  | zero => intro q I h1 h2; omega
  | succ f ih =>
    intro q I h1 h2 e82 e83
    rw [lX3_takeWord_0, e82, e83]
    by_cases c : q = z
    · subst c
      rw [if_pos ((nn_le (by omega) (by omega)).mpr (Nat.le_refl _)), rn_e (Nat.le_refl _)]
      exact ⟨I, rfl, e83, fun _ _ => rfl⟩
    · obtain ⟨t1, t2⟩ := h6 q (by omega)
      rw [if_neg (by rw [nn_le (by omega) (by omega)]; omega), ck, if_pos (inB_n (by omega) (by decide)), ix_n (by omega), t2, (tb_1 _ t1).1]
      dsimp only [gv, Option.bind_some]
      by_cases y : lt8 (tp q) = true
      · rw [if_pos y, if_neg (by decide), nI_1]
        obtain ⟨I2, r1, r2, r3⟩ := ih (q + 1) (upd I 83 (nI (q + 1))) (by omega) (by omega) ((upd_n _ _ (by decide)).trans e82) (upd_s _ _ _)
        exact ⟨I2, r1, by rw [r2, rn_y (by omega) y], fun x hx => by rw [r3 x hx, upd_n _ _ hx]⟩
      · rw [if_neg y, if_pos rfl]
        exact ⟨I, rfl, by rw [e83, rn_n y], fun _ _ => rfl⟩
/-- a number as the class holds it -/
def cn8 (v : Nat) : Nat := if v ≤ 100000 then v else 100001
theorem cn8_s {v d : Nat} (hd : d ≤ 9) : cn8 (if 1000000 < v then v else 10 * v + d) = if 100001 < cn8 v * 10 + d then 100001 else cn8 v * 10 + d := by
  by_cases a : v ≤ 100000
  · have e : cn8 v = v := if_pos a
    rw [if_neg (show ¬ 1000000 < v by omega), e]
    unfold cn8
    by_cases c : 10 * v + d ≤ 100000
    · rw [if_pos c, if_neg (show ¬ 100001 < v * 10 + d by omega)]; omega
    · rw [if_neg c]
      by_cases w : 100001 < v * 10 + d
      · rw [if_pos w]
      · rw [if_neg w]; omega
  · have e : cn8 v = 100001 := if_neg a
    rw [e, if_pos (show 100001 < 100001 * 10 + d by omega)]
    have hv : ¬ (if 1000000 < v then v else 10 * v + d) ≤ 100000 := by split <;> omega
    exact if_neg hv
theorem tn_7 (hz : z ≤ 400) (h6 : ∀ i, i < z → tp i < 256 ∧ A 6 i = nI (tp i)) {p : Nat} : ∀ (f q : Nat) (I : Nat → Int32), z < q + f → p ≤ q → q ≤ z → (∀ i, p ≤ i → i < q → dg8 (tp i) = true) → I 82 = nI z → I 83 = nI q → I 85 = nI (cn8 (nf tp p (q - p))) → ∃ I2, lX3_takeNumber_5 f I J A B = some I2 ∧ I2 83 = nI (rn dg8 tp z q) ∧ I2 85 = nI (cn8 (nf tp p (rn dg8 tp z q - p))) ∧ ∀ x, ¬ x = 83 → ¬ x = 85 → I2 x = I x := by
  intro f
  induction f with
  | zero => intro q I h1 h2; omega
  | succ f ih =>
    intro q I h1 hp h2 hd e82 e83 e85
    rw [lX3_takeNumber_5, e82, e83]
    by_cases c : q = z
    · subst c
      rw [if_pos ((nn_le (by omega) (by omega)).mpr (Nat.le_refl _)), rn_e (Nat.le_refl _)]
      exact ⟨I, rfl, e83, e85, fun _ _ _ => rfl⟩
    · obtain ⟨t1, t2⟩ := h6 q (by omega)
      rw [if_neg (by rw [nn_le (by omega) (by omega)]; omega), ck, if_pos (inB_n (by omega) (by decide)), ix_n (by omega), t2, (tb_1 _ t1).2.2.1]
      dsimp only [gv, Option.bind_some]
      by_cases y : dg8 (tp q) = true
      · have hdq := dg_b y
        have hb : nf tp p (q - p) ≤ 10000009 := nf_b _ (fun i hi => (dg_b (hd (p + i) (by omega) (by omega))).2)
        have hs : nf tp p (q + 1 - p) = if 1000000 < nf tp p (q - p) then nf tp p (q - p) else 10 * nf tp p (q - p) + (tp q - 48) := by
          rw [show q + 1 - p = (q - p) + 1 by omega, nf, show p + (q - p) = q by omega]
        have hc1 : cn8 (nf tp p (q - p)) ≤ 100001 := by unfold cn8; split <;> omega
        rw [if_pos y, if_neg (by decide), ck, if_pos (inB_n (by omega) (by decide)), e85]
        have ev : nI (cn8 (nf tp p (q - p))) * (10 : Int32) + nI (tp q) - 48 = nI (cn8 (nf tp p (q - p)) * 10 + (tp q - 48)) := by
          rw [show (10 : Int32) = nI 10 from rfl, show (48 : Int32) = nI 48 from rfl, pk_mul, nI_add, pk_sub (by omega)]
          congr 1
          omega
        have ev2 : (if (100001 : Int32) < nI (cn8 (nf tp p (q - p)) * 10 + (tp q - 48)) then 100001 else nI (cn8 (nf tp p (q - p)) * 10 + (tp q - 48))) = nI (cn8 (nf tp p (q + 1 - p))) := by
          rw [hs, cn8_s (show tp q - 48 ≤ 9 by omega)]
          by_cases w : 100001 < cn8 (nf tp p (q - p)) * 10 + (tp q - 48)
          · rw [if_pos (by rw [show (100001 : Int32) = nI 100001 from rfl, nn_lt (by decide) (by omega)]; exact w), if_pos w]
            rfl
          · rw [if_neg (by rw [show (100001 : Int32) = nI 100001 from rfl, nn_lt (by decide) (by omega)]; exact w), if_neg w]
        rw [ev, ev2, show upd I 85 (nI (cn8 (nf tp p (q + 1 - p)))) 83 = nI q from (upd_n _ _ (by decide)).trans e83, nI_1]
        obtain ⟨I2, r1, r2, r3, r4⟩ := ih (q + 1) (upd (upd I 85 (nI (cn8 (nf tp p (q + 1 - p))))) 83 (nI (q + 1))) (by omega) (by omega) (by omega) (fun i i1 i2 => by
          by_cases w : i = q
          · rw [w]; exact y
          · exact hd i i1 (by omega)) (by rw [upd_n _ _ (by decide), upd_n _ _ (by decide)]; exact e82) (upd_s _ _ _) (by rw [upd_n _ _ (by decide), upd_s])
        exact ⟨I2, r1, by rw [r2, rn_y (by omega) y], by rw [r3, rn_y (by omega) y], fun x h1 h2 => by rw [r4 x h1 h2, upd_n _ _ h1, upd_n _ _ h2]⟩
      · rw [if_neg y, if_pos rfl]
        exact ⟨I, rfl, by rw [e83, rn_n y], by rw [e85, rn_n y], fun _ _ _ => rfl⟩
theorem iw_7 (hz : z ≤ 400) (h6 : ∀ i, i < z → tp i < 256 ∧ A 6 i = nI (tp i)) (hpe : p ≤ e) (hez : e ≤ z) (hlt : ∀ i, p ≤ i → i < e → lt8 (tp i) = true) (e80 : I 80 = nI p) (e83 : I 83 = nI e) {c : Nat} (hc : c < 21) : ∃ r : Int32, sX3_isWord (nI c) I J A B = some r ∧ (r = 0 ∨ r = 1) ∧ (r = 1 ↔ mt tp p e (cp c)) := by
  obtain ⟨d1, d2⟩ := d_3 c hc
  obtain ⟨-, -, d3, -, d5⟩ := d_1 (cp c) d1
  unfold sX3_isWord
  rw [e80, e83, pk_sub hpe]
  by_cases hlen : e - p ≤ 6
  · rw [if_pos (by rw [show (6 : Int32) = nI 6 from rfl, nn_le (by omega) (by decide)]; exact hlen)]
    have hl : ∀ (f i : Nat), 6 < i + f → i ≤ 6 → (∀ q, q < i → (if q < e - p then nI (tp (p + q)) else 32) = wch (c * 6 + q)) → (lX3_isWord_18 f (nI c) (nI i) I J A B = some (.inr ()) ∧ ∀ q, q < 6 → (if q < e - p then nI (tp (p + q)) else 32) = wch (c * 6 + q)) ∨ (lX3_isWord_18 f (nI c) (nI i) I J A B = some (.inl ()) ∧ ∃ q, q < 6 ∧ ¬ (if q < e - p then nI (tp (p + q)) else 32) = wch (c * 6 + q)) := by
      intro f
      induction f with
      | zero => intro i h1 h2; omega
      | succ f ih =>
        intro i h1 h2 hq
        rw [lX3_isWord_18]
        by_cases w : i = 6
        · subst w
          rw [if_pos (by decide)]
          exact Or.inl ⟨rfl, hq⟩
        · rw [if_neg (by rw [show (6 : Int32) = nI 6 from rfl, nn_le (by decide) (by omega)]; omega)]
          dsimp only [gv]
          rw [e80, e83, nI_add, show nI c * (6 : Int32) + nI i = nI (c * 6 + i) by rw [show (6 : Int32) = nI 6 from rfl, pk_mul, nI_add], ix_n (show c * 6 + i < 2 ^ 31 by omega), ix_n (show p + i < 2 ^ 31 by omega), nI_1]
          have key : ∀ y : Int32, (y = if i < e - p then nI (tp (p + i)) else 32) → ((ck (inB (nI (c * 6 + i)) 126) <| if y = wch (c * 6 + i) then lX3_isWord_18 f (nI c) (nI (i + 1)) I J A B else some (.inl ())) = some (.inr ()) ∧ ∀ q, q < 6 → (if q < e - p then nI (tp (p + q)) else 32) = wch (c * 6 + q)) ∨ ((ck (inB (nI (c * 6 + i)) 126) <| if y = wch (c * 6 + i) then lX3_isWord_18 f (nI c) (nI (i + 1)) I J A B else some (.inl ())) = some (.inl ()) ∧ ∃ q, q < 6 ∧ ¬ (if q < e - p then nI (tp (p + q)) else 32) = wch (c * 6 + q)) := by
            intro y hy
            rw [ck, if_pos (inB_n (by omega) (by decide))]
            by_cases x : y = wch (c * 6 + i)
            · rw [if_pos x]
              exact ih (i + 1) (by omega) (by omega) (fun q hq2 => by
                by_cases v : q = i
                · subst v; rw [← hy]; exact x
                · exact hq q (by omega))
            · rw [if_neg x]
              exact Or.inr ⟨rfl, i, by omega, by rw [← hy]; exact x⟩
          by_cases x : i < e - p
          · rw [if_neg (by rw [nn_le (by omega) (by omega)]; omega), ck, if_pos (inB_n (by omega) (by decide))]
            exact key _ (by rw [if_pos x]; exact (h6 (p + i) (by omega)).2)
          · rw [if_pos (by rw [nn_le (by omega) (by omega)]; omega)]
            exact key _ (by rw [if_neg x])
    have bl : ∀ q, q < e - p → ¬ nI (tp (p + q)) = 32 := fun q hq h => by
      have h1 := (tb_1 _ (h6 (p + q) (by omega)).1).2.2.2.2.1.mp h
      have h2 := lt_b (hlt (p + q) (by omega) (by omega))
      unfold bl8 at h1
      have := of_decide_eq_true h1
      omega
    have iff : (∀ q, q < 6 → (if q < e - p then nI (tp (p + q)) else 32) = wch (c * 6 + q)) ↔ mt tp p e (cp c) := by
      constructor
      · intro h
        have hle : e - p = wl (cp c) := by
          rcases Nat.lt_trichotomy (e - p) (wl (cp c)) with g | g | g
          · have := h (e - p) (by omega)
            rw [if_neg (Nat.lt_irrefl _), d2 _ (by omega), if_pos g] at this
            exact absurd this.symm (d5 _ g)
          · exact g
          · have := h (wl (cp c)) (by omega)
            rw [if_pos g, d2 _ (by omega), if_neg (Nat.lt_irrefl _)] at this
            exact absurd this (bl _ g)
        refine ⟨hle, fun i hi => ?_⟩
        have := h i (by omega)
        rw [if_pos (by omega), d2 i (by omega), if_pos hi] at this
        exact this
      · intro h q hq
        rw [d2 q hq, h.1]
        by_cases x : q < wl (cp c)
        · rw [if_pos x, if_pos x]; exact h.2 q x
        · rw [if_neg x, if_neg x]
    rcases hl FU 0 (by unfold FU; omega) (by omega) (fun q hq => by omega) with ⟨x1, x2⟩ | ⟨x1, q, x2, x3⟩
    · have x1 : lX3_isWord_18 FU (nI c) 0 I J A B = some (.inr ()) := x1
      exact ⟨1, by rw [x1]; rfl, Or.inr rfl, fun _ => iff.mp x2, fun _ => rfl⟩
    · have x1 : lX3_isWord_18 FU (nI c) 0 I J A B = some (.inl ()) := x1
      exact ⟨0, by rw [x1]; rfl, Or.inl rfl, fun h => absurd h (by decide), fun h => absurd (iff.mpr h q x2) x3⟩
  · rw [if_neg (by rw [show (6 : Int32) = nI 6 from rfl, nn_le (by omega) (by decide)]; exact hlen)]
    exact ⟨0, rfl, Or.inl rfl, fun h => absurd h (by decide), fun h => by have := h.1; omega⟩
end X3
