/-- what the reference holds found of the clauses so far -/
def zfl (o : Option Int64) : Int32 := if o.isSome = true then 1 else 0
def ZQF (d : Nat → Option Int64) (I : Nat → Int32) (J : Nat → Int64) : Prop := I 36 = zfl (d 1) ∧ I 37 = zfl (d 2) ∧ I 38 = zfl (d 3) ∧ (∀ v, d 1 = some v → J 34 = v) ∧ ∀ v, d 2 = some v → J 35 = v
/-- one clause more: its head y, its meaning cm -/
def zsd (y : Nat) (cm : Option Int64) (d : Nat → Option Int64) : Nat → Option Int64 := fun x => if x = y then cm.or (d x) else d x
def zaE (f : Nat) (r : Int32) (v : Int64) (I : Nat → Int32) (J : Nat → Int64) (A : Nat → Nat → Int32) (B : Nat → Nat → Int64) : Option ((Nat → Int32) × (Nat → Int64)) :=
  gv (fun (I : Nat → Int32) (J : Nat → Int64) =>
    gv (fun (I : Nat → Int32) (J : Nat → Int64) =>
    gv (fun (y1_j207 : Int32) (I : Nat → Int32) (J : Nat → Int64) =>
    ck (isB y1_j207) <|
    gv (upd I 36 y1_j207) fun I =>
    gv (fun (y1_j228 : Int32) (I : Nat → Int32) (J : Nat → Int64) =>
    ck (isB y1_j228) <|
    gv (upd I 37 y1_j228) fun I =>
    gv (if (I 38) = (0 : Int32) then (if r = (3 : Int32) then (1 : Int32) else (0 : Int32)) else (1 : Int32)) fun v_249 =>
    ck (isB v_249) <|
    gv (upd I 38 v_249) fun I =>
    lX8_asks_43 f I J A B) fun k_228 =>
    gv (fun (I : Nat → Int32) (J : Nat → Int64) =>
    k_228 (1 : Int32) I J) fun k_223 =>
    if (I 37) = (0 : Int32) then
    (if r = (2 : Int32) then
    (k_223 I J)
    else
    k_228 (0 : Int32) I J)
    else
    k_223 I J) fun k_207 =>
    gv (fun (I : Nat → Int32) (J : Nat → Int64) =>
    k_207 (1 : Int32) I J) fun k_202 =>
    if (I 36) = (0 : Int32) then
    (if r = (1 : Int32) then
    (k_202 I J)
    else
    k_207 (0 : Int32) I J)
    else
    k_202 I J) fun k_189 =>
    if r = (2 : Int32) then
    (gv (vp_updL J 35 v) fun J =>
    k_189 I J)
    else
    k_189 I J) fun k_179 =>
    if r = (1 : Int32) then
    (gv (vp_updL J 34 v) fun J =>
    k_179 I J)
    else
    k_179 I J
def zaD (f : Nat) (r : Int32) (v : Int64) (y : Int32) (I : Nat → Int32) (J : Nat → Int64) (A : Nat → Nat → Int32) (B : Nat → Nat → Int64) : Option ((Nat → Int32) × (Nat → Int64)) :=
  gv (upd I 29 ((I 29) + 1)) fun I => if y = (0 : Int32) then (lX8_asks_43 f I J A B) else zaE f r v I J A B
def zaC (f : Nat) (r : Int32) (v : Int64) (x5 y : Int32) (I : Nat → Int32) (J : Nat → Int64) (A : Nat → Nat → Int32) (B : Nat → Nat → Int64) : Option ((Nat → Int32) × (Nat → Int64)) :=
  if y = (0 : Int32) then zaD f r v 0 I J A B else if (I 31) = (0 : Int32) then (if x5 = (0 : Int32) then zaD f r v 1 I J A B else zaD f r v 0 I J A B) else zaD f r v 0 I J A B
def zaB (f : Nat) (r : Int32) (v : Int64) (I : Nat → Int32) (J : Nat → Int64) (A : Nat → Nat → Int32) (B : Nat → Nat → Int64) : Option ((Nat → Int32) × (Nat → Int64)) :=
  gv (I 31) fun x5 => gv (upd I 31 0) fun I => (sX8_passes 4 I J A B).bind fun (r_106, I) => if r_106 = (0 : Int32) then zaC f r v x5 1 I J A B else (sX8_testOf 10 1 I J A B).bind fun (r_114, I) => if r_114 = (0 : Int32) then zaC f r v x5 0 I J A B else zaC f r v x5 1 I J A B
def zaA (f : Nat) (r : Int32) (I : Nat → Int32) (J : Nat → Int64) (A : Nat → Nat → Int32) (B : Nat → Nat → Int64) : Option ((Nat → Int32) × (Nat → Int64)) :=
  if r = (3 : Int32) then zaB f r 0 I J A B else (sX8_sumOf 10 1 I J A B).bind fun (r_89, I) => zaB f r r_89 I J A B
section ZB
variable {I : Nat → Int32} {J : Nat → Int64} {A Ar : Nat → Nat → Int32} {B Br : Nat → Nat → Int64} {nb nc : Nat} {fb w tk vl : Nat → Int32} {N ba : Nat}
theorem za_1 {f : Nat} : lX8_asks_43 (f + 1) I J A B = if (I 30) ≤ (I 29) then some (I, J) else (sX8_codeAt ((upd I 31 0) 29) (upd I 31 0) J A B).bind fun r => zaA f r (upd (upd I 31 0) 29 ((upd I 31 0) 29 + 1)) J A B := rfl
theorem zfl_b (o : Option Int64) : zfl o = 0 ∨ zfl o = 1 := by
  unfold zfl
  by_cases c : o.isSome = true
  · rw [if_pos c]; exact Or.inr rfl
  · rw [if_neg c]; exact Or.inl rfl
/-- a clause that holds -/
theorem za_h {f y : Nat} {v : Int64} {d : Nat → Option Int64} (hy : 1 ≤ y) (hy3 : y ≤ 3) (hd : ZQF d I J) : ∃ I' J', zaE f (nI y) v I J A B = lX8_asks_43 f I' J' A B ∧ I' 29 = I 29 ∧ (∀ q, ¬ q = 36 → ¬ q = 37 → ¬ q = 38 → I' q = I q) ∧ (∀ q, ¬ q = 34 → ¬ q = 35 → J' q = J q) ∧ ZQF (zsd y (some v) d) I' J' := by
  obtain ⟨q1, q2, q3, q4, q5⟩ := hd
  have u : ∀ (a b : Int32) (c : Int32), upd (upd (upd I 36 a) 37 b) 38 c 36 = a ∧ upd (upd (upd I 36 a) 37 b) 38 c 37 = b ∧ upd (upd (upd I 36 a) 37 b) 38 c 38 = c ∧ upd (upd (upd I 36 a) 37 b) 38 c 29 = I 29 ∧ ∀ q, ¬ q = 36 → ¬ q = 37 → ¬ q = 38 → upd (upd (upd I 36 a) 37 b) 38 c q = I q := fun a b c => ⟨rfl, rfl, rfl, rfl, fun q h1 h2 h3 => by rw [upd_n _ _ h3, upd_n _ _ h2, upd_n _ _ h1]⟩
  have key : ∀ (a b c : Int32) (J' : Nat → Int64), zaE f (nI y) v I J A B = lX8_asks_43 f (upd (upd (upd I 36 a) 37 b) 38 c) J' A B → (∀ q, ¬ q = 34 → ¬ q = 35 → J' q = J q) → a = zfl (zsd y (some v) d 1) → b = zfl (zsd y (some v) d 2) → c = zfl (zsd y (some v) d 3) → (∀ x, zsd y (some v) d 1 = some x → J' 34 = x) → (∀ x, zsd y (some v) d 2 = some x → J' 35 = x) → ∃ I' J', zaE f (nI y) v I J A B = lX8_asks_43 f I' J' A B ∧ I' 29 = I 29 ∧ (∀ q, ¬ q = 36 → ¬ q = 37 → ¬ q = 38 → I' q = I q) ∧ (∀ q, ¬ q = 34 → ¬ q = 35 → J' q = J q) ∧ ZQF (zsd y (some v) d) I' J' := fun a b c J' h h1 h2 h3 h4 h5 h6 => ⟨_, J', h, (u a b c).2.2.2.1, (u a b c).2.2.2.2, h1, h2, h3, h4, h5, h6⟩
  have z0 : isB 0 = true := by decide
  have z1 : isB 1 = true := by decide
  have w0 : ∀ a b : Int32, upd (upd I 36 a) 37 b 38 = I 38 := fun a b => rfl
  have w1 : ∀ a : Int32, upd I 36 a 37 = I 37 := fun a => rfl
  have y3 : y = 1 ∨ y = 2 ∨ y = 3 := by omega
  have n10 : ((1 : Int32) = 0) = False := by decide
  have n12 : ((1 : Int32) = 2) = False := by decide
  have n13 : ((1 : Int32) = 3) = False := by decide
  have n21 : ((2 : Int32) = 1) = False := by decide
  have n23 : ((2 : Int32) = 3) = False := by decide
  have n31 : ((3 : Int32) = 1) = False := by decide
  have n32 : ((3 : Int32) = 2) = False := by decide
  have m1 : nI 1 = 1 := rfl
  have m2 : nI 2 = 2 := rfl
  have m3 : nI 3 = 3 := rfl
  rcases y3 with rfl | rfl | rfl
  · refine key 1 (zfl (d 2)) (zfl (d 3)) (vp_updL J 34 v) ?_ (fun q h _ => by simp [vp_updL, h]) rfl rfl rfl (fun x h => by have h' : some v = some x := h; cases h'; simp [vp_updL]) (fun x h => by rw [← q5 x h]; simp [vp_updL])
    unfold zaE
    rcases zfl_b (d 1) with e1 | e1 <;> rcases zfl_b (d 2) with e2 | e2 <;> rcases zfl_b (d 3) with e3 | e3 <;> simp only [gv, q1, q2, q3, e1, e2, e3, w0, w1, ck, z0, z1, n10, n12, n13, m1, if_true, if_false]
  · refine key (zfl (d 1)) 1 (zfl (d 3)) (vp_updL J 35 v) ?_ (fun q _ h => by simp [vp_updL, h]) rfl rfl rfl (fun x h => by rw [← q4 x h]; simp [vp_updL]) (fun x h => by have h' : some v = some x := h; cases h'; simp [vp_updL])
    unfold zaE
    rcases zfl_b (d 1) with e1 | e1 <;> rcases zfl_b (d 2) with e2 | e2 <;> rcases zfl_b (d 3) with e3 | e3 <;> simp only [gv, q1, q2, q3, e1, e2, e3, w0, w1, ck, z0, z1, n10, n21, n23, m2, if_true, if_false]
  · refine key (zfl (d 1)) (zfl (d 2)) 1 J ?_ (fun q _ _ => rfl) rfl rfl rfl (fun x h => q4 x h) (fun x h => q5 x h)
    unfold zaE
    rcases zfl_b (d 1) with e1 | e1 <;> rcases zfl_b (d 2) with e2 | e2 <;> rcases zfl_b (d 3) with e3 | e3 <;> simp only [gv, q1, q2, q3, e1, e2, e3, w0, w1, ck, z0, z1, n10, n31, n32, m3, if_true, if_false]
end ZB
