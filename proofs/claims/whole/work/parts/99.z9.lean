def RO3 (tk vl : Nat → Int32) (N ba : Nat) (J : Nat → Int64) (A : Nat → Nat → Int32) (B : Nat → Nat → Int64) (d k k' : Nat) (den : Option Int64) : Prop := ∀ (e : Nat) (I : Nat → Int32) (lv : Int32), k' ≤ N → d ≤ e → RXT tk vl N ba A I → I 29 = nI (ba + k) → (I 31 = 0 ∨ I 31 = 1) → (lv = 0 ∨ lv = 1) → ∃ (v : Int32) (I' : Nat → Int32), sX8_positiveOf_F (sX8_testOf e) lv I J A B = some (v, I') ∧ (v = 0 ∨ v = 1) ∧ OU ba I lv k' den v.toInt64 I'
def RO4 (tk vl : Nat → Int32) (N ba : Nat) (J : Nat → Int64) (A : Nat → Nat → Int32) (B : Nat → Nat → Int64) (d k k' : Nat) (den : Option Int64) : Prop := ∀ (e : Nat) (I : Nat → Int32) (lv : Int32), k' ≤ N → d ≤ e → RXT tk vl N ba A I → I 29 = nI (ba + k) → (I 31 = 0 ∨ I 31 = 1) → (lv = 0 ∨ lv = 1) → ∃ (v : Int32) (I' : Nat → Int32), sX8_plainOf_F (sX8_testOf e) lv I J A B = some (v, I') ∧ (v = 0 ∨ v = 1) ∧ OU ba I lv k' den v.toInt64 I'
def RO5 (tk vl : Nat → Int32) (N ba : Nat) (J : Nat → Int64) (A : Nat → Nat → Int32) (B : Nat → Nat → Int64) (d k k' : Nat) (den : Option Int64) : Prop := ∀ (e : Nat) (I : Nat → Int32) (lv : Int32), k' ≤ N → d ≤ e → RXT tk vl N ba A I → I 29 = nI (ba + k) → (I 31 = 0 ∨ I 31 = 1) → (lv = 0 ∨ lv = 1) → ∃ (v : Int32) (I' : Nat → Int32) (f : Nat), FU + k ≤ f + k' ∧ sX8_bothOf_F (sX8_testOf e) lv I J A B = ((lX8_bothOf_6 (sX8_testOf e) f lv v I' J A B).bind fun a => ck (isB a.1) (some a)) ∧ (v = 0 ∨ v = 1) ∧ OU ba I lv k' den v.toInt64 I'
def RO6 (tk vl : Nat → Int32) (N ba : Nat) (J : Nat → Int64) (A : Nat → Nat → Int32) (B : Nat → Nat → Int64) (d k k' : Nat) (den : Option Int64) : Prop := ∀ (e : Nat) (I : Nat → Int32) (lv : Int32), k' ≤ N → d ≤ e → RXT tk vl N ba A I → I 29 = nI (ba + k) → (I 31 = 0 ∨ I 31 = 1) → (lv = 0 ∨ lv = 1) → ∃ (v : Int32) (I' : Nat → Int32) (f : Nat), FU + k ≤ f + k' ∧ sX8_testOf_F (sX8_testOf e) lv I J A B = ((lX8_testOf_6 (sX8_testOf e) f lv v I' J A B).bind fun a => ck (isB a.1) (some a)) ∧ (v = 0 ∨ v = 1) ∧ OU ba I lv k' den v.toInt64 I'
section Z9
variable {I : Nat → Int32} {J : Nat → Int64} {A : Nat → Nat → Int32} {B : Nat → Nat → Int64} {tk vl : Nat → Int32} {N ba : Nat}
theorem isb_1 {v : Int32} (h : v = 0 ∨ v = 1) : isB v = true := decide_eq_true h
theorem bo_x {rs : Int32 → (Nat → Int32) → (Nat → Int64) → (Nat → Nat → Int32) → (Nat → Nat → Int64) → Option (Int32 × (Nat → Int32))} {lv : Int32} : sX8_bothOf_F rs lv I J A B = (sX8_plainOf_F rs lv I J A B).bind fun a => (lX8_bothOf_6 rs FU lv a.1 a.2 J A B).bind fun a => ck (isB a.1) (some a) := by
  unfold sX8_bothOf_F
  cases sX8_plainOf_F rs lv I J A B with
  | none => rfl
  | some a => rfl
theorem ts_x {rs : Int32 → (Nat → Int32) → (Nat → Int64) → (Nat → Nat → Int32) → (Nat → Nat → Int64) → Option (Int32 × (Nat → Int32))} {lv : Int32} : sX8_testOf_F rs lv I J A B = (sX8_bothOf_F rs lv I J A B).bind fun a => (lX8_testOf_6 rs FU lv a.1 a.2 J A B).bind fun a => ck (isB a.1) (some a) := by
  unfold sX8_testOf_F
  cases sX8_bothOf_F rs lv I J A B with
  | none => rfl
  | some a => rfl
theorem bo_end {rs : Int32 → (Nat → Int32) → (Nat → Int64) → (Nat → Nat → Int32) → (Nat → Nat → Int64) → Option (Int32 × (Nat → Int32))} {f k : Nat} {lv v : Int32} (hx : RXT tk vl N ba A I) (h29 : I 29 = nI (ba + k)) (hk : k ≤ N) (h1 : ¬ tk k = 6) : lX8_bothOf_6 rs (f + 1) lv v I J A B = some (v, I) := by
  rw [lX8_bothOf_6, pa_0 hx hk h29 h1]
  dsimp only [Option.bind_some, gv]
  rw [if_pos rfl]
theorem ts_end {rs : Int32 → (Nat → Int32) → (Nat → Int64) → (Nat → Nat → Int32) → (Nat → Nat → Int64) → Option (Int32 × (Nat → Int32))} {f k : Nat} {lv v : Int32} (hx : RXT tk vl N ba A I) (h29 : I 29 = nI (ba + k)) (hk : k ≤ N) (h1 : ¬ tk k = 5) : lX8_testOf_6 rs (f + 1) lv v I J A B = some (v, I) := by
  rw [lX8_testOf_6, pa_0 hx hk h29 h1]
  dsimp only [Option.bind_some, gv]
  rw [if_pos rfl]
/-- a both that ends -/
theorem bo_e {d k k' e : Nat} {p : Option Int64} {lv : Int32} (h : RO5 tk vl N ba J A B d k k' p) (hk : k' ≤ N) (hd : d ≤ e) (hx : RXT tk vl N ba A I) (h29 : I 29 = nI (ba + k)) (hb : I 31 = 0 ∨ I 31 = 1) (hl : lv = 0 ∨ lv = 1) (h1 : ¬ tk k' = 6) : ∃ (v : Int32) (I' : Nat → Int32), sX8_bothOf_F (sX8_testOf e) lv I J A B = some (v, I') ∧ (v = 0 ∨ v = 1) ∧ OU ba I lv k' p v.toInt64 I' := by
  obtain ⟨v, I', f, hf, E, hv, hO⟩ := h e I lv hk hd hx h29 hb hl
  obtain ⟨g, rfl⟩ := fu_1 hx hf hk
  refine ⟨v, I', ?_, hv, hO⟩
  rw [E, bo_end (rx_o hx hO) hO.1 hk h1]
  dsimp only [Option.bind_some]
  rw [ck, if_pos (isb_1 hv)]
/-- a test that ends -/
theorem ts_e {d k k' e : Nat} {p : Option Int64} {lv : Int32} (h : RO6 tk vl N ba J A B d k k' p) (hk : k' ≤ N) (hd : d ≤ e) (hx : RXT tk vl N ba A I) (h29 : I 29 = nI (ba + k)) (hb : I 31 = 0 ∨ I 31 = 1) (hl : lv = 0 ∨ lv = 1) (h1 : ¬ tk k' = 5) : ∃ (v : Int32) (I' : Nat → Int32), sX8_testOf (e + 1) lv I J A B = some (v, I') ∧ (v = 0 ∨ v = 1) ∧ OU ba I lv k' p v.toInt64 I' := by
  obtain ⟨v, I', f, hf, E, hv, hO⟩ := h e I lv hk hd hx h29 hb hl
  obtain ⟨g, rfl⟩ := fu_1 hx hf hk
  refine ⟨v, I', ?_, hv, hO⟩
  rw [sX8_testOf, E, ts_end (rx_o hx hO) hO.1 hk h1]
  dsimp only [Option.bind_some]
  rw [ck, if_pos (isb_1 hv)]
def zpD (lv r : Int32) (x y : Int64) (I : Nat → Int32) : Option (Int32 × (Nat → Int32)) := if lv = 0 then some ((0 : Int32), I) else if I 31 = 0 then (if r = 100 + 60 then (if 0 ≤ lg_cmp x y then some (0, I) else some (1, I)) else if r = 100 + 62 then (if lg_cmp x y ≤ 0 then some (0, I) else some (1, I)) else if lg_cmp x y = 0 then some (1, I) else some (0, I)) else some (0, I)
def zpC (lv : Int32) (I : Nat → Int32) (J : Nat → Int64) (A : Nat → Nat → Int32) (B : Nat → Nat → Int64) : Option (Int32 × (Nat → Int32)) := (sX8_sumOf 10 lv I J A B).bind fun a => (sX8_codeAt (a.2 29) a.2 J A B).bind fun r => (sX8_sumOf 10 lv (upd a.2 29 (a.2 29 + 1)) J A B).bind fun b => zpD lv r a.1 b.1 b.2
def zpF (lv r : Int32) (I : Nat → Int32) (A : Nat → Nat → Int32) : Option (Int32 × (Nat → Int32)) := if lv = 0 then some (0, I) else if I 31 = 0 then ck (inB (r - 8) 4) (if A 33 (ix (r - 8)) = 0 then some (0, I) else some (1, I)) else some (0, I)
def zpA (lv r : Int32) (I : Nat → Int32) (J : Nat → Int64) (A : Nat → Nat → Int32) (B : Nat → Nat → Int64) : Option (Int32 × (Nat → Int32)) := if r < 8 then zpC lv I J A B else if 11 < r then zpC lv I J A B else zpF lv r (upd I 29 (I 29 + 1)) A
theorem zp_x {rs : Int32 → (Nat → Int32) → (Nat → Int64) → (Nat → Nat → Int32) → (Nat → Nat → Int64) → Option (Int32 × (Nat → Int32))} {lv : Int32} {k : Nat} (hx : RXT tk vl N ba A I) (h29 : I 29 = nI (ba + k)) (hk : k ≤ N) (h : ¬ tk k = nI 140) : sX8_positiveOf_F rs lv I J A B = zpA lv (tk k) I J A B := by
  unfold sX8_positiveOf_F
  have e : sX8_sign 40 = some (nI 140) := rfl
  rw [e]
  dsimp only [Option.bind_some]
  rw [pa_0 hx hk h29 h]
  dsimp only [Option.bind_some]
  rw [if_pos rfl]
  change ((sX8_codeAt (I 29) I J A B).bind fun r => zpA lv r I J A B) = _
  rw [h29, ca_1 hx hk]
  rfl
theorem ro_flg {d k x : Nat} (h1 : 8 ≤ x) (h2 : x ≤ 11) (h : tk k = nI x) (hA : A 33 (x - 8) = 0 ∨ A 33 (x - 8) = 1) : RO3 tk vl N ba J A B d k (k + 1) (some (A 33 (x - 8)).toInt64) := by
  intro e I lv hk hd hx h29 hb hl
  rw [zp_x hx h29 (by omega) (by rw [h, nI_eq (by omega) (by decide)]; omega), h, zpA, h29]
  rw [if_neg (show ¬ nI x < 8 by rw [show (8 : Int32) = nI 8 from rfl, nn_lt (by omega) (by decide)]; omega), if_neg (show ¬ 11 < nI x by rw [show (11 : Int32) = nI 11 from rfl, nn_lt (by decide) (by omega)]; omega)]
  unfold zpF
  rcases hl with rfl | rfl
  · rw [if_pos rfl]
    exact ⟨_, _, rfl, Or.inl rfl, ou_0 h29 (fun h => absurd h (by decide))⟩
  · rw [if_neg (by decide)]
    have e31 : upd I 29 (nI (ba + k) + 1) 31 = I 31 := upd_n _ _ (by decide)
    rcases hb with hb | hb
    · rw [if_pos (e31.trans hb), show nI x - 8 = nI (x - 8) from pk_sub h1, ck, if_pos (inB_n (by omega) (by decide)), ix_n (by omega)]
      rcases hA with q | q
      · rw [if_pos q, q]
        exact ⟨_, _, rfl, Or.inl rfl, ou_0 h29 (fun _ _ => rfl)⟩
      · rw [if_neg (by rw [q]; decide), q]
        exact ⟨_, _, rfl, Or.inr rfl, ou_0 h29 (fun _ _ => rfl)⟩
    · rw [if_neg (by rw [e31, hb]; decide)]
      exact ⟨_, _, rfl, Or.inl rfl, ou_0 h29 (fun _ h => by rw [hb] at h; exact absurd h (by decide))⟩
theorem ro_brt {d k k' : Nat} {p : Option Int64} (h1 : tk k = nI 140) (h : RO6 tk vl N ba J A B d (k + 1) k' p) (h3 : tk k' = nI 141) (hkk : k < k') : RO3 tk vl N ba J A B (d + 1) k (k' + 1) p := by
  intro e I lv hk hd hx h29 hb hl
  obtain ⟨e, rfl⟩ : ∃ e', e = e' + 1 := ⟨e - 1, by omega⟩
  obtain ⟨v, I', E, hv, hO⟩ := ts_e (e := e) (lv := lv) (I := upd I 29 (nI (ba + (k + 1)))) h (by omega) (by omega) (rx_i hx (upd_n _ _ (by decide))) (upd_s _ _ _) (by rw [upd_n _ _ (by decide)]; exact hb) hl (by rw [h3]; decide)
  unfold sX8_positiveOf_F sX8_sign
  dsimp only [Option.bind_some]
  rw [show (100 : Int32) + 40 = nI 140 from rfl, pa_1 hx (k := k) (by omega) h29 h1]
  dsimp only [Option.bind_some, gv]
  rw [if_neg (by decide), E]
  dsimp only [Option.bind_some]
  rw [ck, if_pos (isb_1 hv)]
  exact ⟨v, _, rfl, hv, ou_s (ou_u hO)⟩
theorem i32_811 {c : Int32} (h : ∀ x, 8 ≤ x → x ≤ 11 → ¬ c = nI x) : c < 8 ∨ 11 < c := by
  by_cases c1 : c < 8
  · exact Or.inl c1
  · by_cases c2 : 11 < c
    · exact Or.inr c2
    · rw [i32_lt] at c1 c2
      have e8 : (8 : Int32).toInt = 8 := rfl
      have e11 : (11 : Int32).toInt = 11 := rfl
      rw [e8] at c1
      rw [e11] at c2
      refine absurd ?_ (h c.toInt.toNat (by omega) (by omega))
      apply Int32.toInt_inj.mp
      rw [nI_toInt (by omega)]
      omega
theorem bj_1 {b : Nat} {x y : Int64} (hb : b = 60 ∨ b = 61 ∨ b = 62) : jJ b x y = some (vJ b x y) ∧ (vJ b x y = 0 ∨ vJ b x y = 1) := by
  have h : vJ b x y = 0 ∨ vJ b x y = 1 := by
    unfold vJ
    rcases hb with rfl | rfl | rfl
    · by_cases c : 0 ≤ lg_cmp x y
      · exact Or.inl (by simp [c])
      · exact Or.inr (by simp [c])
    · by_cases c : lg_cmp x y = 0
      · exact Or.inr (by simp [c])
      · exact Or.inl (by simp [c])
    · by_cases c : lg_cmp x y ≤ 0
      · exact Or.inl (by simp [c])
      · exact Or.inr (by simp [c])
  refine ⟨?_, h⟩
  unfold jJ
  rw [if_neg (show ¬ (b = 47 ∧ lg_cmp y 0 = 0) from fun h => by omega)]
  rcases h with h | h <;> rw [h] <;> rfl
theorem ro_cmp {d k e1 e2 k1 k' b : Nat} {p q : Option Int64} (g1 : e1 ≤ 9) (g2 : e2 ≤ 9) (g3 : ¬ tk k = nI 140) (g4 : ∀ x, 8 ≤ x → x ≤ 11 → ¬ tk k = nI x) (h1 : RO2 tk vl N ba J A B e1 k k1 p) (hb : b = 60 ∨ b = 61 ∨ b = 62) (h3 : tk k1 = nI (100 + b)) (h4 : RO2 tk vl N ba J A B e2 (k1 + 1) k' q) (h5 : ¬ tk k' = nI 143) (h6 : ¬ tk k' = nI 145) (hkk : k < k1) (hk2 : k1 + 1 < k') : RO3 tk vl N ba J A B d k k' (dJ b p q) := by
  intro e I lv hk hd hx h29 hb1 hl
  obtain ⟨x, I1, E1, hO⟩ := su_e (e := 9) h1 (by omega) g1 hx h29 hb1 hl (by rw [h3, nI_eq (by omega) (by decide)]; omega) (by rw [h3, nI_eq (by omega) (by decide)]; omega)
  have hx1 := rx_o hx hO
  have hb2 := ou_31 hl hb1 hO
  obtain ⟨y, I2, E2, hO2⟩ := su_e (e := 9) (I := upd I1 29 (nI (ba + k1) + 1)) (lv := lv) h4 hk g2 (rx_i hx1 (upd_n _ _ (by decide))) (by rw [upd_s, nI_1, Nat.add_assoc]) (by rw [upd_n _ _ (by decide)]; exact hb2) hl h5 h6
  have hb3 := ou_31 hl (by rw [upd_n _ _ (by decide)]; exact hb2) hO2
  have hA : zpA lv (tk k) I J A B = zpC lv I J A B := by
    unfold zpA
    rcases i32_811 g4 with c | c
    · rw [if_pos c]
    · by_cases c' : tk k < 8
      · rw [if_pos c']
      · rw [if_neg c', if_pos c]
  rw [zp_x hx h29 (by omega) g3, hA, zpC]
  have E1' : sX8_sumOf 10 lv I J A B = some (x, I1) := E1
  have E2' : sX8_sumOf 10 lv (upd I1 29 (nI (ba + k1) + 1)) J A B = some (y, I2) := E2
  rw [E1']
  dsimp only [Option.bind_some]
  rw [hO.1, ca_1 hx1 (k := k1) (by omega), h3]
  dsimp only [Option.bind_some]
  rw [E2']
  dsimp only [Option.bind_some]
  obtain ⟨j1, j2⟩ := bj_1 (x := x) (y := y) hb
  unfold zpD
  suffices hs : ∃ v : Int32, (if lv = 0 then some ((0 : Int32), I2) else if I2 31 = 0 then (if nI (100 + b) = 100 + 60 then (if 0 ≤ lg_cmp x y then some (0, I2) else some (1, I2)) else if nI (100 + b) = 100 + 62 then (if lg_cmp x y ≤ 0 then some (0, I2) else some (1, I2)) else if lg_cmp x y = 0 then some (1, I2) else some (0, I2)) else some (0, I2)) = some (v, I2) ∧ (v = 0 ∨ v = 1) ∧ (lv = 1 → I2 31 = 0 → v.toInt64 = vJ b x y) by
    obtain ⟨v, V1, V2, V3⟩ := hs
    refine ⟨v, I2, V1, V2, ou_j hO hO2 ⟨fun _ _ => rfl, id, fun _ => rfl, fun a b => Or.inl ⟨b, ?_⟩⟩⟩
    rw [j1, V3 a b]
  by_cases c : lv = 0
  · rw [if_pos c]
    exact ⟨0, rfl, Or.inl rfl, fun h => by rw [c] at h; exact absurd h (by decide)⟩
  · rw [if_neg c]
    by_cases c2 : I2 31 = 0
    · rw [if_pos c2]
      rcases hb with rfl | rfl | rfl
      · rw [if_pos (show nI (100 + 60) = 100 + 60 from rfl)]
        by_cases c3 : 0 ≤ lg_cmp x y
        · rw [if_pos c3]
          exact ⟨0, rfl, Or.inl rfl, fun _ _ => by simp [vJ, c3]⟩
        · rw [if_neg c3]
          exact ⟨1, rfl, Or.inr rfl, fun _ _ => by simp [vJ, c3]⟩
      · rw [if_neg (show ¬ nI (100 + 61) = 100 + 60 by decide), if_neg (show ¬ nI (100 + 61) = 100 + 62 by decide)]
        by_cases c3 : lg_cmp x y = 0
        · rw [if_pos c3]
          exact ⟨1, rfl, Or.inr rfl, fun _ _ => by simp [vJ, c3]⟩
        · rw [if_neg c3]
          exact ⟨0, rfl, Or.inl rfl, fun _ _ => by simp [vJ, c3]⟩
      · rw [if_neg (show ¬ nI (100 + 62) = 100 + 60 by decide), if_pos (show nI (100 + 62) = 100 + 62 from rfl)]
        by_cases c3 : lg_cmp x y ≤ 0
        · rw [if_pos c3]
          exact ⟨0, rfl, Or.inl rfl, fun _ _ => by simp [vJ, c3]⟩
        · rw [if_neg c3]
          exact ⟨1, rfl, Or.inr rfl, fun _ _ => by simp [vJ, c3]⟩
    · rw [if_neg c2]
      exact ⟨0, rfl, Or.inl rfl, fun _ h => absurd h c2⟩
/-- the nots -/
theorem nt_1 {rs : Int32 → (Nat → Int32) → (Nat → Int64) → (Nat → Nat → Int32) → (Nat → Nat → Int64) → Option (Int32 × (Nat → Int32))} {lv : Int32} : ∀ (j f k : Nat) (x : Int32) (I : Nat → Int32), k + j ≤ N → j < f → RXT tk vl N ba A I → I 29 = nI (ba + k) → (x = 0 ∨ x = 1) → (∀ i, i < j → tk (k + i) = 7) → ¬ tk (k + j) = 7 → ∃ I', lX8_plainOf_2 rs f lv x I J A B = some (if j % 2 = 0 then x else 1 - x, I') ∧ I' 29 = nI (ba + (k + j)) ∧ ∀ q, ¬ q = 29 → I' q = I q := by
  intro j
  induction j with
  | zero =>
    intro f k x I h1 h2 hx h29 h3 h4 h5
    obtain ⟨f, rfl⟩ : ∃ g, f = g + 1 := ⟨f - 1, by omega⟩
    rw [lX8_plainOf_2, pa_0 hx (k := k) (by omega) h29 h5]
    dsimp only [Option.bind_some, gv]
    rw [if_pos rfl]
    exact ⟨I, rfl, h29, fun _ _ => rfl⟩
  | succ j ih =>
    intro f k x I h1 h2 hx h29 h3 h4 h5
    obtain ⟨f, rfl⟩ : ∃ g, f = g + 1 := ⟨f - 1, by omega⟩
    rw [lX8_plainOf_2, pa_1 hx (k := k) (by omega) h29 (h4 0 (by omega))]
    dsimp only [Option.bind_some, gv]
    rw [if_neg (show ¬ (1 : Int32) = 0 by decide)]
    obtain ⟨I', i1, i2, i3⟩ := ih f (k + 1) (if x = 0 then 1 else 0) (upd I 29 (nI (ba + (k + 1)))) (by omega) (by omega) (rx_i hx (upd_n _ _ (by decide))) (upd_s _ _ _) (by rcases h3 with rfl | rfl <;> decide) (fun i hi => by rw [Nat.add_assoc, Nat.add_comm 1 i]; exact h4 (i + 1) (by omega)) (by rw [Nat.add_assoc, Nat.add_comm 1 j]; exact h5)
    refine ⟨I', ?_, by rw [i2]; exact congrArg nI (by omega), fun q hq => (i3 q hq).trans (upd_n _ _ hq)⟩
    rw [i1]
    by_cases c : j % 2 = 0
    · rw [if_pos c, if_neg (show ¬ (j + 1) % 2 = 0 by omega)]
      rcases h3 with rfl | rfl <;> rfl
    · rw [if_neg c, if_pos (show (j + 1) % 2 = 0 by omega)]
      rcases h3 with rfl | rfl <;> rfl
theorem ro_nt {d k k' j : Nat} {p p' : Option Int64} (h1 : ∀ i, i < j → tk (k + i) = 7) (h2 : ¬ tk (k + j) = 7) (h : RO3 tk vl N ba J A B d (k + j) k' p) (hk2 : k + j < k') (hp : (j % 2 = 0 ∧ p' = p) ∨ (j % 2 = 1 ∧ p' = p.map fun x => 1 - x)) : RO4 tk vl N ba J A B d k k' p' := by
  intro e I lv hk hd hx h29 hb hl
  have hN := hx.1
  have hF : FU = 1000000 := rfl
  obtain ⟨I1, E1, a1, a2⟩ := nt_1 (rs := sX8_testOf e) (J := J) (B := B) (lv := lv) j FU k 0 I (by omega) (by omega) hx h29 (Or.inl rfl) h1 h2
  obtain ⟨v, I2, E2, hv, o1, o2, o3, o4, o5⟩ := h e I1 lv hk hd (rx_i hx (a2 30 (by decide))) a1 (by rw [a2 31 (by decide)]; exact hb) hl
  rw [a2 31 (by decide)] at o3 o4 o5
  unfold sX8_plainOf_F
  rw [E1]
  dsimp only [Option.bind_some]
  rw [E2]
  dsimp only [Option.bind_some, gv]
  rcases hp with ⟨c, rfl⟩ | ⟨c, rfl⟩
  · rw [if_pos c]
    refine ⟨v, I2, ?_, hv, o1, fun q hq hq' => (o2 q hq hq').trans (a2 q hq), o3, o4, o5⟩
    rcases hv with rfl | rfl <;> rfl
  · rw [if_neg (show ¬ j % 2 = 0 by omega)]
    refine ⟨1 - v, I2, ?_, ?_, o1, fun q hq hq' => (o2 q hq hq').trans (a2 q hq), o3, o4, fun l h0 => ?_⟩
    · rcases hv with rfl | rfl <;> rfl
    · rcases hv with rfl | rfl
      · exact Or.inr rfl
      · exact Or.inl rfl
    · rcases o5 l h0 with ⟨q1, q2⟩ | ⟨q1, q2⟩
      · refine Or.inl ⟨q1, ?_⟩
        rw [q2]
        rcases hv with rfl | rfl <;> rfl
      · exact Or.inr ⟨q1, by rw [q2]; rfl⟩
theorem ro_bo0 {d k k' : Nat} {p : Option Int64} (h : RO4 tk vl N ba J A B d k k' p) (hkk : k < k') : RO5 tk vl N ba J A B d k k' p := by
  intro e I lv hk hd hx h29 hb hl
  obtain ⟨v, I', E, hv, hO⟩ := h e I lv hk hd hx h29 hb hl
  exact ⟨v, I', FU, by omega, by rw [bo_x, E]; rfl, hv, hO⟩
theorem ro_te0 {d k k' : Nat} {p : Option Int64} (h : RO5 tk vl N ba J A B d k k' p) (hkk : k < k') (h1 : ¬ tk k' = 6) : RO6 tk vl N ba J A B d k k' p := by
  intro e I lv hk hd hx h29 hb hl
  obtain ⟨v, I', E, hv, hO⟩ := bo_e h hk hd hx h29 hb hl h1
  exact ⟨v, I', FU, by omega, by rw [ts_x, E]; rfl, hv, hO⟩
/-- and, or: what comes of both sides; lr is how the right one is read -/
theorem ou_a {lv lr t : Int32} {st : Int64} {k1 k' : Nat} {p q : Option Int64} {x y v : Int32} {I1 I2 : Nat → Int32} (hl : lv = 0 ∨ lv = 1) (h1 : OU ba I lv k1 p x.toInt64 I1) (h2 : OU ba (upd I1 29 t) lr k' q y.toInt64 I2) (hr : (lr = 0 ∧ (lv = 0 ∨ (lg_cmp x.toInt64 st = 0 ∧ v = x))) ∨ (lr = 1 ∧ lv = 1 ∧ ¬ lg_cmp x.toInt64 st = 0 ∧ v = y)) : OU ba I lv k' (p.bind fun x => if lg_cmp x st = 0 then some x else q) v.toInt64 I2 := by
  obtain ⟨a1, a2, a3, a4, a5⟩ := h1
  obtain ⟨b1, b2, b3, b4, b5⟩ := h2
  rw [upd_n _ _ (by decide)] at b3 b4 b5
  refine ⟨b1, fun z hz hz' => (b2 z hz hz').trans ((upd_n _ _ hz).trans (a2 z hz hz')), fun h => b3 (a3 h), fun h => ?_, fun h1 h0 => ?_⟩
  · rcases hr with ⟨r, -⟩ | ⟨-, r, -⟩
    · exact (b4 r).trans (a4 h)
    · rw [r] at h; exact absurd h (by decide)
  · rcases a5 h1 h0 with ⟨d1, d2⟩ | ⟨d1, d2⟩
    · rw [d2]
      dsimp only [Option.bind_some]
      rcases hr with ⟨r, r2 | ⟨r2, r3⟩⟩ | ⟨r, -, r2, r3⟩
      · rw [h1] at r2; exact absurd r2 (by decide)
      · rw [if_pos r2, r3]
        exact Or.inl ⟨(b4 r).trans d1, rfl⟩
      · rw [if_neg r2, r3]
        exact b5 r d1
    · exact Or.inr ⟨b3 d1, by rw [d2]; rfl⟩
theorem ro_bo1 {d k k1 k' : Nat} {p q : Option Int64} (h1 : RO5 tk vl N ba J A B d k k1 p) (h3 : tk k1 = 6) (h4 : RO4 tk vl N ba J A B d (k1 + 1) k' q) (hkk : k < k1) (hk2 : k1 + 1 < k') : RO5 tk vl N ba J A B d k k' (p.bind fun x => if lg_cmp x 0 = 0 then some x else q) := by
  intro e I lv hk hd hx h29 hb1 hl
  obtain ⟨x, I1, f, hf, E, hv, hO⟩ := h1 e I lv (by omega) hd hx h29 hb1 hl
  obtain ⟨g, rfl⟩ := fu_1 hx hf (by omega)
  have hx1 := rx_o hx hO
  have hb2 := ou_31 hl hb1 hO
  rw [E, lX8_bothOf_6, pa_1 hx1 (k := k1) (by omega) hO.1 h3]
  dsimp only [Option.bind_some, gv]
  rw [if_neg (show ¬ (1 : Int32) = 0 by decide)]
  have key := fun lr hr => h4 e (upd I1 29 (nI (ba + (k1 + 1)))) lr hk hd (rx_i hx1 (upd_n _ _ (by decide))) (upd_s _ _ _) (by rw [upd_n _ _ (by decide)]; exact hb2) hr
  by_cases c : lv = 0
  · obtain ⟨y, I2, E2, hy, hO2⟩ := key 0 (Or.inl rfl)
    rw [if_pos c, E2]
    exact ⟨_, I2, g, by omega, rfl, by rcases hv with rfl | rfl <;> rcases hy with rfl | rfl <;> simp, ou_a hl hO hO2 (Or.inl ⟨rfl, Or.inl c⟩)⟩
  · rw [if_neg c]
    have c1 := hl.resolve_left c
    rcases hv with rfl | rfl
    · obtain ⟨y, I2, E2, hy, hO2⟩ := key 0 (Or.inl rfl)
      rw [if_pos rfl, E2]
      exact ⟨0, I2, g, by omega, rfl, Or.inl rfl, ou_a hl hO hO2 (Or.inl ⟨rfl, Or.inr ⟨lcmp_self 0, rfl⟩⟩)⟩
    · obtain ⟨y, I2, E2, hy, hO2⟩ := key 1 (Or.inr rfl)
      rw [if_neg (by decide), E2]
      refine ⟨y, I2, g, by omega, ?_, hy, ou_a hl hO hO2 (Or.inr ⟨rfl, c1, by decide, rfl⟩)⟩
      rcases hy with rfl | rfl <;> rfl
theorem ro_te1 {d k k1 k' : Nat} {p q : Option Int64} (h1 : RO6 tk vl N ba J A B d k k1 p) (h3 : tk k1 = 5) (h4 : RO5 tk vl N ba J A B d (k1 + 1) k' q) (h5 : ¬ tk k' = 6) (hkk : k < k1) (hk2 : k1 + 1 < k') : RO6 tk vl N ba J A B d k k' (p.bind fun x => if lg_cmp x 1 = 0 then some x else q) := by
  intro e I lv hk hd hx h29 hb1 hl
  obtain ⟨x, I1, f, hf, E, hv, hO⟩ := h1 e I lv (by omega) hd hx h29 hb1 hl
  obtain ⟨g, rfl⟩ := fu_1 hx hf (by omega)
  have hx1 := rx_o hx hO
  have hb2 := ou_31 hl hb1 hO
  rw [E, lX8_testOf_6, pa_1 hx1 (k := k1) (by omega) hO.1 h3]
  dsimp only [Option.bind_some, gv]
  rw [if_neg (show ¬ (1 : Int32) = 0 by decide)]
  have key := fun (lr : Int32) (hr : lr = 0 ∨ lr = 1) => bo_e (I := upd I1 29 (nI (ba + (k1 + 1)))) (lv := lr) h4 hk hd (rx_i hx1 (upd_n _ _ (by decide))) (upd_s _ _ _) (by rw [upd_n _ _ (by decide)]; exact hb2) hr h5
  by_cases c : lv = 0
  · obtain ⟨y, I2, E2, hy, hO2⟩ := key 0 (Or.inl rfl)
    rw [if_pos c, E2]
    exact ⟨_, I2, g, by omega, rfl, by rcases hv with rfl | rfl <;> rcases hy with rfl | rfl <;> simp, ou_a hl hO hO2 (Or.inl ⟨rfl, Or.inl c⟩)⟩
  · rw [if_neg c]
    have c1 := hl.resolve_left c
    rcases hv with rfl | rfl
    · obtain ⟨y, I2, E2, hy, hO2⟩ := key 1 (Or.inr rfl)
      rw [if_pos rfl, E2]
      refine ⟨y, I2, g, by omega, ?_, hy, ou_a hl hO hO2 (Or.inr ⟨rfl, c1, by decide, rfl⟩)⟩
      rcases hy with rfl | rfl <;> rfl
    · obtain ⟨y, I2, E2, hy, hO2⟩ := key 0 (Or.inl rfl)
      rw [if_neg (by decide), E2]
      exact ⟨1, I2, g, by omega, rfl, Or.inr rfl, ou_a hl hO hO2 (Or.inl ⟨rfl, Or.inr ⟨lcmp_self 1, rfl⟩⟩)⟩
end Z9
