/-- the class's values are the reference's -/
def LK (Ac Ar : Nat → Nat → Int32) (Br : Nat → Nat → Int64) : Prop := (∀ i, i < 10 → (Ac 96 i).toInt64 = Br 32 i) ∧ ∀ j, j < 4 → Ac 96 (10 + j) = Ar 33 j ∧ (Ar 33 j = 0 ∨ Ar 33 j = 1)
/-- what the reference comes to, read from I, live or not -/
def OU (ba : Nat) (I : Nat → Int32) (lv : Int32) (k' : Nat) (den : Option Int64) (v : Int64) (I' : Nat → Int32) : Prop := I' 29 = nI (ba + k') ∧ (∀ q, ¬ q = 29 → ¬ q = 31 → I' q = I q) ∧ (I 31 = 1 → I' 31 = 1) ∧ (lv = 0 → I' 31 = I 31) ∧ (lv = 1 → I 31 = 0 → (I' 31 = 0 ∧ den = some v) ∨ (I' 31 = 1 ∧ den = none))
def OJ (lv : Int32) (I2 I3 : Nat → Int32) (r : Option Int64) (v : Int64) : Prop := (∀ q, ¬ q = 31 → I3 q = I2 q) ∧ (I2 31 = 1 → I3 31 = 1) ∧ (lv = 0 → I3 31 = I2 31) ∧ (lv = 1 → I2 31 = 0 → (I3 31 = 0 ∧ r = some v) ∨ (I3 31 = 1 ∧ r = none))
def RO0 (tk vl : Nat → Int32) (N ba : Nat) (J : Nat → Int64) (A : Nat → Nat → Int32) (B : Nat → Nat → Int64) (d k k' : Nat) (den : Option Int64) : Prop := ∀ (e : Nat) (I : Nat → Int32) (lv : Int32), k' ≤ N → d ≤ e → RXT tk vl N ba A I → I 29 = nI (ba + k) → (I 31 = 0 ∨ I 31 = 1) → (lv = 0 ∨ lv = 1) → ∃ v I', sX8_partOf_F (sX8_sumOf e) lv I J A B = some (v, I') ∧ OU ba I lv k' den v I'
def RO1 (tk vl : Nat → Int32) (N ba : Nat) (J : Nat → Int64) (A : Nat → Nat → Int32) (B : Nat → Nat → Int64) (d k k' : Nat) (den : Option Int64) : Prop := ∀ (e : Nat) (I : Nat → Int32) (lv : Int32), k' ≤ N → d ≤ e → RXT tk vl N ba A I → I 29 = nI (ba + k) → (I 31 = 0 ∨ I 31 = 1) → (lv = 0 ∨ lv = 1) → ∃ v I' f, FU + k ≤ f + k' ∧ sX8_termOf_F (sX8_sumOf e) lv I J A B = lX8_termOf_6 (sX8_sumOf e) f lv v I' J A B ∧ OU ba I lv k' den v I'
def RO2 (tk vl : Nat → Int32) (N ba : Nat) (J : Nat → Int64) (A : Nat → Nat → Int32) (B : Nat → Nat → Int64) (d k k' : Nat) (den : Option Int64) : Prop := ∀ (e : Nat) (I : Nat → Int32) (lv : Int32), k' ≤ N → d ≤ e → RXT tk vl N ba A I → I 29 = nI (ba + k) → (I 31 = 0 ∨ I 31 = 1) → (lv = 0 ∨ lv = 1) → ∃ v I' f, FU + k ≤ f + k' ∧ sX8_sumOf_F (sX8_sumOf e) lv I J A B = lX8_sumOf_6 (sX8_sumOf e) f lv v I' J A B ∧ OU ba I lv k' den v I'
section Z8
variable {I : Nat → Int32} {J : Nat → Int64} {A : Nat → Nat → Int32} {B : Nat → Nat → Int64} {tk vl : Nat → Int32} {N ba : Nat}
theorem rx_i {I' : Nat → Int32} (h : RXT tk vl N ba A I) (e : I' 30 = I 30) : RXT tk vl N ba A I' := ⟨h.1, h.2.1, h.2.2.1, h.2.2.2.1, e.trans h.2.2.2.2⟩
theorem bd_x {x : Int64} {lv : Int32} (hl : lv = 0 ∨ lv = 1) (hI : I 31 = 0 ∨ I 31 = 1) : ∃ v I2, sX8_bounded x lv I J A B = some (v, I2) ∧ OJ lv I I2 (bJ x) v := by
  unfold OJ
  rcases hl with rfl | rfl
  · obtain ⟨v, h⟩ := bd_d (I := I) (J := J) (A := A) (B := B) (x := x)
    exact ⟨v, I, h, fun _ _ => rfl, id, fun _ => rfl, fun h => absurd h (by decide)⟩
  · rcases hI with h | h
    · obtain ⟨v, I2, e1, e2, e3⟩ := bd_1 (J := J) (A := A) (B := B) (x := x) h
      exact ⟨v, I2, e1, e2, fun h' => (by rw [h] at h'; exact absurd h' (by decide)), fun h => absurd h (by decide), fun _ _ => e3⟩
    · obtain ⟨v, I2, e1, e2, e3⟩ := bd_b (J := J) (A := A) (B := B) (x := x) (l := 1) h
      exact ⟨v, I2, e1, e2, fun _ => e3, fun h => absurd h (by decide), fun _ h' => (by rw [h] at h'; exact absurd h' (by decide))⟩
theorem ou_j {lv t : Int32} {k1 k' b : Nat} {p q : Option Int64} {x y v : Int64} {I1 I2 I3 : Nat → Int32} (h1 : OU ba I lv k1 p x I1) (h2 : OU ba (upd I1 29 t) lv k' q y I2) (h3 : OJ lv I2 I3 (jJ b x y) v) : OU ba I lv k' (dJ b p q) v I3 := by
  obtain ⟨a1, a2, a3, a4, a5⟩ := h1
  obtain ⟨b1, b2, b3, b4, b5⟩ := h2
  obtain ⟨c1, c2, c3, c4⟩ := h3
  rw [upd_n _ _ (by decide)] at b3 b4 b5
  refine ⟨(c1 29 (by decide)).trans b1, fun z hz hz' => (c1 z hz').trans ((b2 z hz hz').trans ((upd_n _ _ hz).trans (a2 z hz hz'))), fun h => c2 (b3 (a3 h)), fun h => (c3 h).trans ((b4 h).trans (a4 h)), fun hl h0 => ?_⟩
  rcases a5 hl h0 with ⟨d1, d2⟩ | ⟨d1, d2⟩
  · rcases b5 hl d1 with ⟨e1, e2⟩ | ⟨e1, e2⟩
    · rcases c4 hl e1 with ⟨f1, f2⟩ | ⟨f1, f2⟩
      · exact Or.inl ⟨f1, (by rw [d2, e2]; exact f2)⟩
      · exact Or.inr ⟨f1, (by rw [d2, e2]; exact f2)⟩
    · exact Or.inr ⟨c2 e1, (by rw [d2, e2]; rfl)⟩
  · exact Or.inr ⟨c2 (b3 d1), (by rw [d2]; rfl)⟩
theorem ou_s {lv : Int32} {k' : Nat} {p : Option Int64} {v : Int64} {I1 : Nat → Int32} (h : OU ba I lv k' p v I1) : OU ba I lv (k' + 1) p v (upd I1 29 (I1 29 + 1)) := by
  obtain ⟨a1, a2, a3, a4, a5⟩ := h
  refine ⟨by rw [upd_s, a1, nI_1, Nat.add_assoc], fun q h1 h2 => (upd_n _ _ h1).trans (a2 q h1 h2), ?_, ?_, ?_⟩ <;> rw [upd_n _ _ (by decide)] <;> assumption
theorem ou_u {lv t : Int32} {k' : Nat} {p : Option Int64} {v : Int64} {I1 : Nat → Int32} (h : OU ba (upd I 29 t) lv k' p v I1) : OU ba I lv k' p v I1 := by
  obtain ⟨a1, a2, a3, a4, a5⟩ := h
  rw [upd_n _ _ (by decide)] at a3 a4 a5
  exact ⟨a1, fun q h1 h2 => (a2 q h1 h2).trans (upd_n _ _ h1), a3, a4, a5⟩
theorem ou_31 {lv : Int32} {k' : Nat} {p : Option Int64} {v : Int64} {I1 : Nat → Int32} (hl : lv = 0 ∨ lv = 1) (hI : I 31 = 0 ∨ I 31 = 1) (h : OU ba I lv k' p v I1) : I1 31 = 0 ∨ I1 31 = 1 := by
  obtain ⟨a1, a2, a3, a4, a5⟩ := h
  rcases hI with h | h
  · rcases hl with l | l
    · exact Or.inl ((a4 l).trans h)
    · rcases a5 l h with q | q
      · exact Or.inl q.1
      · exact Or.inr q.1
  · exact Or.inr (a3 h)
/-- one token read, no value to be had -/
theorem ou_0 {lv : Int32} {k : Nat} {p : Option Int64} {v : Int64} (h : I 29 = nI (ba + k)) (hv : lv = 1 → I 31 = 0 → p = some v) : OU ba I lv (k + 1) p v (upd I 29 (nI (ba + k) + 1)) := by
  refine ⟨by rw [upd_s, nI_1, Nat.add_assoc], fun q h1 h2 => upd_n _ _ h1, ?_, ?_, ?_⟩ <;> rw [upd_n _ _ (by decide)]
  · exact id
  · exact fun _ => rfl
  · exact fun a b => Or.inl ⟨b, hv a b⟩
def ptT (lv r : Int32) (I : Nat → Int32) (A : Nat → Nat → Int32) (B : Nat → Nat → Int64) : Option (Int64 × (Nat → Int32)) := if lv = 0 then some (0, I) else if I 31 = 0 then (if r = 50 then ck (inB (4847 + I 29 - 1) 8047) (some ((A 1 (ix (4847 + I 29 - 1))).toInt64, I)) else ck (inB (r - 12) 10) (some (B 32 (ix (r - 12)), I))) else some (0, I)
theorem ro_num {d k : Nat} (h : tk k = 50) : RO0 tk vl N ba J A B d k (k + 1) (some (vl k).toInt64) := by
  intro e I lv hk hd hx h29 hb hl
  unfold sX8_partOf_F sX8_sign
  dsimp only [Option.bind_some]
  rw [pa_0 hx (k := k) (by omega) h29 (by rw [h]; decide)]
  dsimp only [Option.bind_some, gv]
  rw [if_pos rfl]
  change ∃ v I', ((sX8_codeAt (I 29) I J A B).bind fun r => ptT lv r (upd I 29 (I 29 + 1)) A B) = some (v, I') ∧ OU ba I lv (k + 1) (some (vl k).toInt64) v I'
  rw [h29, ca_1 hx (k := k) (by omega), h]
  change ∃ v I', ptT lv 50 (upd I 29 (nI (ba + k) + 1)) A B = some (v, I') ∧ OU ba I lv (k + 1) (some (vl k).toInt64) v I'
  unfold ptT
  rcases hl with rfl | rfl
  · rw [if_pos rfl]
    exact ⟨_, _, rfl, ou_0 h29 (fun h => absurd h (by decide))⟩
  · rw [if_neg (by decide)]
    have e31 : upd I 29 (nI (ba + k) + 1) 31 = I 31 := upd_n _ _ (by decide)
    rcases hb with hb | hb
    · have := hx.1
      have := hx.2.1
      rw [if_pos (e31.trans hb), if_pos rfl, upd_s, show (4847 : Int32) + (nI (ba + k) + 1) - 1 = nI (4847 + ba + k) by rw [nI_1, show (4847 : Int32) = nI 4847 from rfl, nI_add, show (1 : Int32) = nI 1 from rfl, pk_sub (by omega)]; exact congrArg nI (by omega), ck, if_pos (inB_n (by omega) (by decide)), ix_n (by omega), (hx.2.2.1 k (by omega)).2]
      exact ⟨_, _, rfl, ou_0 h29 (fun _ _ => rfl)⟩
    · rw [if_neg (by rw [e31, hb]; decide)]
      exact ⟨_, _, rfl, ou_0 h29 (fun _ h => by rw [hb] at h; exact absurd h (by decide))⟩
theorem ro_val {d k x : Nat} (h1 : 12 ≤ x) (h2 : x ≤ 21) (h : tk k = nI x) : RO0 tk vl N ba J A B d k (k + 1) (some (B 32 (x - 12))) := by
  intro e I lv hk hd hx h29 hb hl
  unfold sX8_partOf_F sX8_sign
  dsimp only [Option.bind_some]
  rw [pa_0 hx (k := k) (by omega) h29 (by rw [h, show (100 : Int32) + 91 = nI 191 from rfl, nI_eq (by omega) (by decide)]; omega)]
  dsimp only [Option.bind_some, gv]
  rw [if_pos rfl]
  change ∃ v I', ((sX8_codeAt (I 29) I J A B).bind fun r => ptT lv r (upd I 29 (I 29 + 1)) A B) = some (v, I') ∧ OU ba I lv (k + 1) (some (B 32 (x - 12))) v I'
  rw [h29, ca_1 hx (k := k) (by omega), h]
  change ∃ v I', ptT lv (nI x) (upd I 29 (nI (ba + k) + 1)) A B = some (v, I') ∧ OU ba I lv (k + 1) (some (B 32 (x - 12))) v I'
  unfold ptT
  rcases hl with rfl | rfl
  · rw [if_pos rfl]
    exact ⟨_, _, rfl, ou_0 h29 (fun h => absurd h (by decide))⟩
  · rw [if_neg (by decide)]
    have e31 : upd I 29 (nI (ba + k) + 1) 31 = I 31 := upd_n _ _ (by decide)
    rcases hb with hb | hb
    · rw [if_pos (e31.trans hb), if_neg (show ¬ nI x = 50 by rw [show (50 : Int32) = nI 50 from rfl, nI_eq (by omega) (by decide)]; omega), show nI x - 12 = nI (x - 12) from pk_sub h1, ck, if_pos (inB_n (by omega) (by decide)), ix_n (by omega)]
      exact ⟨_, _, rfl, ou_0 h29 (fun _ _ => rfl)⟩
    · rw [if_neg (by rw [e31, hb]; decide)]
      exact ⟨_, _, rfl, ou_0 h29 (fun _ h => by rw [hb] at h; exact absurd h (by decide))⟩
theorem sm_end {rs : Int32 → (Nat → Int32) → (Nat → Int64) → (Nat → Nat → Int32) → (Nat → Nat → Int64) → Option (Int64 × (Nat → Int32))} {f k : Nat} {lv : Int32} {v : Int64} (hx : RXT tk vl N ba A I) (h29 : I 29 = nI (ba + k)) (hk : k ≤ N) (h1 : ¬ tk k = nI 143) (h2 : ¬ tk k = nI 145) : lX8_sumOf_6 rs (f + 1) lv v I J A B = some (v, I) := by
  rw [lX8_sumOf_6, h29, ca_1 hx hk]
  dsimp only [sX8_sign, Option.bind_some, gv]
  rw [if_neg (show ¬ tk k = 100 + 43 from h1), if_neg (show ¬ tk k = 100 + 45 from h2)]
theorem tm_end {rs : Int32 → (Nat → Int32) → (Nat → Int64) → (Nat → Nat → Int32) → (Nat → Nat → Int64) → Option (Int64 × (Nat → Int32))} {f k : Nat} {lv : Int32} {v : Int64} (hx : RXT tk vl N ba A I) (h29 : I 29 = nI (ba + k)) (hk : k ≤ N) (h1 : ¬ tk k = nI 142) (h2 : ¬ tk k = nI 147) : lX8_termOf_6 rs (f + 1) lv v I J A B = some (v, I) := by
  rw [lX8_termOf_6, h29, ca_1 hx hk]
  dsimp only [sX8_sign, Option.bind_some, gv]
  rw [if_neg (show ¬ tk k = 100 + 42 from h1), if_neg (show ¬ tk k = 100 + 47 from h2)]
theorem tm_x {rs : Int32 → (Nat → Int32) → (Nat → Int64) → (Nat → Nat → Int32) → (Nat → Nat → Int64) → Option (Int64 × (Nat → Int32))} {lv : Int32} : sX8_termOf_F rs lv I J A B = (sX8_partOf_F rs lv I J A B).bind fun a => lX8_termOf_6 rs FU lv a.1 a.2 J A B := by
  unfold sX8_termOf_F
  cases sX8_partOf_F rs lv I J A B with
  | none => rfl
  | some a =>
    obtain ⟨v, I⟩ := a
    dsimp only [Option.bind_some]
    cases lX8_termOf_6 rs FU lv v I J A B <;> rfl
theorem sm_x {rs : Int32 → (Nat → Int32) → (Nat → Int64) → (Nat → Nat → Int32) → (Nat → Nat → Int64) → Option (Int64 × (Nat → Int32))} {lv : Int32} : sX8_sumOf_F rs lv I J A B = (sX8_termOf_F rs lv I J A B).bind fun a => lX8_sumOf_6 rs FU lv a.1 a.2 J A B := by
  unfold sX8_sumOf_F
  cases sX8_termOf_F rs lv I J A B with
  | none => rfl
  | some a =>
    obtain ⟨v, I⟩ := a
    dsimp only [Option.bind_some]
    cases lX8_sumOf_6 rs FU lv v I J A B <;> rfl
theorem rx_o {lv : Int32} {k' : Nat} {p : Option Int64} {v : Int64} {I1 : Nat → Int32} (hx : RXT tk vl N ba A I) (h : OU ba I lv k' p v I1) : RXT tk vl N ba A I1 := rx_i hx (h.2.1 30 (by decide) (by decide))
theorem fu_1 {f k k1 : Nat} (hx : RXT tk vl N ba A I) (h : FU + k ≤ f + k1) (hk : k1 ≤ N) : ∃ g, f = g + 1 := by
  have : FU = 1000000 := rfl
  have := hx.1
  exact ⟨f - 1, by omega⟩
/-- a sum that ends -/
theorem su_e {d k k' e : Nat} {p : Option Int64} {lv : Int32} (h : RO2 tk vl N ba J A B d k k' p) (hk : k' ≤ N) (hd : d ≤ e) (hx : RXT tk vl N ba A I) (h29 : I 29 = nI (ba + k)) (hb : I 31 = 0 ∨ I 31 = 1) (hl : lv = 0 ∨ lv = 1) (h1 : ¬ tk k' = nI 143) (h2 : ¬ tk k' = nI 145) : ∃ v I', sX8_sumOf (e + 1) lv I J A B = some (v, I') ∧ OU ba I lv k' p v I' := by
  obtain ⟨v, I', f, hf, E, hO⟩ := h e I lv hk hd hx h29 hb hl
  obtain ⟨g, rfl⟩ := fu_1 hx hf hk
  refine ⟨v, I', ?_, hO⟩
  rw [sX8_sumOf, E, sm_end (rx_o hx hO) hO.1 hk h1 h2]
/-- a term that ends -/
theorem te_e {d k k' e : Nat} {p : Option Int64} {lv : Int32} (h : RO1 tk vl N ba J A B d k k' p) (hk : k' ≤ N) (hd : d ≤ e) (hx : RXT tk vl N ba A I) (h29 : I 29 = nI (ba + k)) (hb : I 31 = 0 ∨ I 31 = 1) (hl : lv = 0 ∨ lv = 1) (h1 : ¬ tk k' = nI 142) (h2 : ¬ tk k' = nI 147) : ∃ v I', sX8_termOf_F (sX8_sumOf e) lv I J A B = some (v, I') ∧ OU ba I lv k' p v I' := by
  obtain ⟨v, I', f, hf, E, hO⟩ := h e I lv hk hd hx h29 hb hl
  obtain ⟨g, rfl⟩ := fu_1 hx hf hk
  refine ⟨v, I', ?_, hO⟩
  rw [E, tm_end (rx_o hx hO) hO.1 hk h1 h2]
theorem ro_brs {d k k' : Nat} {p : Option Int64} (h1 : tk k = nI 191) (h : RO2 tk vl N ba J A B d (k + 1) k' p) (h3 : tk k' = nI 193) (hkk : k < k') : RO0 tk vl N ba J A B (d + 1) k (k' + 1) p := by
  intro e I lv hk hd hx h29 hb hl
  obtain ⟨e, rfl⟩ : ∃ e', e = e' + 1 := ⟨e - 1, by omega⟩
  obtain ⟨v, I', E, hO⟩ := su_e (e := e) (lv := lv) (I := upd I 29 (nI (ba + (k + 1)))) h (by omega) (by omega) (rx_i hx (upd_n _ _ (by decide))) (upd_s _ _ _) (by rw [upd_n _ _ (by decide)]; exact hb) hl (by rw [h3]; decide) (by rw [h3]; decide)
  unfold sX8_partOf_F sX8_sign
  dsimp only [Option.bind_some]
  rw [show (100 : Int32) + 91 = nI 191 from rfl, pa_1 hx (k := k) (by omega) h29 h1]
  dsimp only [Option.bind_some, gv]
  rw [if_neg (by decide), E]
  exact ⟨v, _, rfl, ou_s (ou_u hO)⟩
theorem ro_tm0 {d k k' : Nat} {p : Option Int64} (h : RO0 tk vl N ba J A B d k k' p) (hkk : k < k') : RO1 tk vl N ba J A B d k k' p := by
  intro e I lv hk hd hx h29 hb hl
  obtain ⟨v, I', E, hO⟩ := h e I lv hk hd hx h29 hb hl
  exact ⟨v, I', FU, by omega, by rw [tm_x, E]; rfl, hO⟩
theorem ro_sm0 {d k k' : Nat} {p : Option Int64} (h : RO1 tk vl N ba J A B d k k' p) (hkk : k < k') (h1 : ¬ tk k' = nI 142) (h2 : ¬ tk k' = nI 147) : RO2 tk vl N ba J A B d k k' p := by
  intro e I lv hk hd hx h29 hb hl
  obtain ⟨v, I', E, hO⟩ := te_e h hk hd hx h29 hb hl h1 h2
  exact ⟨v, I', FU, by omega, by rw [sm_x, E]; rfl, hO⟩
theorem ro_sm1 {d k k1 k' b : Nat} {p q : Option Int64} (h1 : RO2 tk vl N ba J A B d k k1 p) (hb : b = 43 ∨ b = 45) (h3 : tk k1 = nI (100 + b)) (h4 : RO1 tk vl N ba J A B d (k1 + 1) k' q) (h5 : ¬ tk k' = nI 142) (h6 : ¬ tk k' = nI 147) (hkk : k < k1) (hk2 : k1 + 1 < k') : RO2 tk vl N ba J A B d k k' (dJ b p q) := by
  intro e I lv hk hd hx h29 hb1 hl
  obtain ⟨x, I1, f, hf, E, hO⟩ := h1 e I lv (by omega) hd hx h29 hb1 hl
  obtain ⟨g, rfl⟩ := fu_1 hx hf (by omega)
  have hx1 := rx_o hx hO
  have hb2 := ou_31 hl hb1 hO
  obtain ⟨y, I2, E2, hO2⟩ := te_e (I := upd I1 29 (nI (ba + k1) + 1)) (lv := lv) h4 hk hd (rx_i hx1 (upd_n _ _ (by decide))) (by rw [upd_s, nI_1, Nat.add_assoc]) (by rw [upd_n _ _ (by decide)]; exact hb2) hl h5 h6
  have hb3 := ou_31 hl (by rw [upd_n _ _ (by decide)]; exact hb2) hO2
  rw [E, lX8_sumOf_6, hO.1, ca_1 hx1 (k := k1) (by omega), h3]
  dsimp only [sX8_sign, Option.bind_some, gv]
  rw [hO.1, ca_1 hx1 (k := k1) (by omega), h3]
  dsimp only [Option.bind_some]
  rw [E2]
  dsimp only [Option.bind_some]
  rcases hb with rfl | rfl
  · obtain ⟨v, I3, E3, hO3⟩ := bd_x (I := I2) (J := J) (A := A) (B := B) (x := x + y) hl hb3
    rw [if_pos (show nI (100 + 43) = 100 + 43 from rfl), if_pos (show nI (100 + 43) = 100 + 43 from rfl), if_neg (show ¬ (1 : Int32) = 0 by decide), E3]
    exact ⟨v, I3, g, by omega, rfl, ou_j hO hO2 hO3⟩
  · obtain ⟨v, I3, E3, hO3⟩ := bd_x (I := I2) (J := J) (A := A) (B := B) (x := x - y) hl hb3
    rw [if_neg (show ¬ nI (100 + 45) = 100 + 43 by decide), if_pos (show nI (100 + 45) = 100 + 45 from rfl), if_neg (show ¬ nI (100 + 45) = 100 + 43 by decide), if_pos (show (0 : Int32) = 0 from rfl), E3]
    exact ⟨v, I3, g, by omega, rfl, ou_j hO hO2 hO3⟩
theorem ro_tm1 {d k k1 k' b : Nat} {p q : Option Int64} (h1 : RO1 tk vl N ba J A B d k k1 p) (hb : b = 42 ∨ b = 47) (h3 : tk k1 = nI (100 + b)) (h4 : RO0 tk vl N ba J A B d (k1 + 1) k' q) (hkk : k < k1) (hk2 : k1 + 1 < k') : RO1 tk vl N ba J A B d k k' (dJ b p q) := by
  intro e I lv hk hd hx h29 hb1 hl
  obtain ⟨x, I1, f, hf, E, hO⟩ := h1 e I lv (by omega) hd hx h29 hb1 hl
  obtain ⟨g, rfl⟩ := fu_1 hx hf (by omega)
  have hx1 := rx_o hx hO
  have hb2 := ou_31 hl hb1 hO
  obtain ⟨y, I2, E2, hO2⟩ := h4 e (upd I1 29 (nI (ba + k1) + 1)) lv hk hd (rx_i hx1 (upd_n _ _ (by decide))) (by rw [upd_s, nI_1, Nat.add_assoc]) (by rw [upd_n _ _ (by decide)]; exact hb2) hl
  have hb3 := ou_31 hl (by rw [upd_n _ _ (by decide)]; exact hb2) hO2
  rw [E, lX8_termOf_6, hO.1, ca_1 hx1 (k := k1) (by omega), h3]
  dsimp only [sX8_sign, Option.bind_some, gv]
  rw [hO.1, ca_1 hx1 (k := k1) (by omega), h3]
  dsimp only [Option.bind_some]
  rw [E2]
  dsimp only [Option.bind_some]
  rcases hb with rfl | rfl
  · obtain ⟨v, I3, E3, hO3⟩ := bd_x (I := I2) (J := J) (A := A) (B := B) (x := x * y) hl hb3
    rw [if_pos (show nI (100 + 42) = 100 + 42 from rfl), if_pos (show nI (100 + 42) = 100 + 42 from rfl), if_neg (show ¬ (1 : Int32) = 0 by decide), if_neg (show ¬ (1 : Int32) = 0 by decide), E3]
    exact ⟨v, I3, g, by omega, rfl, ou_j hO hO2 hO3⟩
  · rw [if_neg (show ¬ nI (100 + 47) = 100 + 42 by decide), if_pos (show nI (100 + 47) = 100 + 47 from rfl), if_neg (show ¬ nI (100 + 47) = 100 + 42 by decide), if_pos (show (0 : Int32) = 0 from rfl)]
    by_cases c : lg_cmp y 0 = 0
    · rw [if_pos c]
      have hj : jJ 47 x y = none := by unfold jJ; rw [if_pos ⟨rfl, c⟩]
      have fin : ∀ t : Int32, (t = 0 ∨ t = 1) → (I2 31 = 1 → t = 1) → (lv = 0 → t = I2 31) → (lv = 1 → I2 31 = 0 → t = 1) → ∃ v I3, sX8_bounded (x / 1) lv (upd I2 31 t) J A B = some (v, I3) ∧ OJ lv I2 I3 (jJ 47 x y) v := by
        intro t t0 t1 t2 t3
        obtain ⟨v, I3, E3, o1, o2, o3, o4⟩ := bd_x (I := upd I2 31 t) (J := J) (A := A) (B := B) (x := x / 1) hl (by rw [upd_s]; exact t0)
        rw [upd_s] at o2 o3 o4
        exact ⟨v, I3, E3, fun q hq => (o1 q hq).trans (upd_n _ _ hq), fun h => o2 (t1 h), fun h => (o3 h).trans (t2 h), fun h h' => Or.inr ⟨o2 (t3 h h'), hj⟩⟩
      by_cases c2 : I2 31 = 0
      · rw [if_pos c2]
        by_cases c3 : lv = 0
        · obtain ⟨v, I3, E3, hO3⟩ := fin 0 (Or.inl rfl) (fun h => by rw [c2] at h; exact h) (fun _ => c2.symm) (fun h => by rw [c3] at h; exact absurd h (by decide))
          rw [if_pos c3, ck, if_pos (show isB 0 = true by decide), ck, if_pos (show nzL 1 = true by decide), E3]
          exact ⟨v, I3, g, by omega, rfl, ou_j hO hO2 hO3⟩
        · obtain ⟨v, I3, E3, hO3⟩ := fin 1 (Or.inr rfl) (fun _ => rfl) (fun h => absurd h c3) (fun _ _ => rfl)
          rw [if_neg c3, ck, if_pos (show isB 1 = true by decide), ck, if_pos (show nzL 1 = true by decide), E3]
          exact ⟨v, I3, g, by omega, rfl, ou_j hO hO2 hO3⟩
      · have c3 : I2 31 = 1 := hb3.resolve_left c2
        obtain ⟨v, I3, E3, hO3⟩ := fin 1 (Or.inr rfl) (fun _ => rfl) (fun h => c3.symm) (fun _ _ => rfl)
        rw [if_neg c2, ck, if_pos (show isB 1 = true by decide), ck, if_pos (show nzL 1 = true by decide), E3]
        exact ⟨v, I3, g, by omega, rfl, ou_j hO hO2 hO3⟩
    · have hj : jJ 47 x y = bJ (x / y) := by unfold jJ; rw [if_neg (fun h => c h.2)]; rfl
      obtain ⟨v, I3, E3, hO3⟩ := bd_x (I := I2) (J := J) (A := A) (B := B) (x := x / y) hl hb3
      rw [if_neg c, ck, if_pos (show nzL y = true from decide_eq_true (fun q => c (by rw [q]; exact lcmp_self 0))), E3]
      exact ⟨v, I3, g, by omega, rfl, ou_j hO hO2 (by rw [hj]; exact hO3)⟩
end Z8
