
/-- both come to an end, and Q binds their ends -/
def RB {α β : Type} (o : Option α) (o' : Option β) (Q : α → β → Prop) : Prop := ∃ a b, o = some a ∧ o' = some b ∧ Q a b
theorem rb_some {α β : Type} {Q : α → β → Prop} {a : α} {b : β} (h : Q a b) : RB (some a) (some b) Q := ⟨a, b, rfl, rfl, h⟩
theorem rb_if {α β : Type} {Q : α → β → Prop} {c c' : Prop} [Decidable c] [Decidable c'] {a b : Option α} {a' b' : Option β} (h : c ↔ c') (ht : c → c' → RB a a' Q) (he : ¬ c → ¬ c' → RB b b' Q) : RB (if c then a else b) (if c' then a' else b') Q := by
  by_cases hc : c
  · rw [if_pos hc, if_pos (h.mp hc)]; exact ht hc (h.mp hc)
  · rw [if_neg hc, if_neg (fun x => hc (h.mpr x))]; exact he hc (fun x => hc (h.mpr x))
theorem rb_bind {α β γ δ : Type} {P : α → β → Prop} {Q : γ → δ → Prop} {o : Option α} {o' : Option β} {f : α → Option γ} {f' : β → Option δ} (h : RB o o' P) (k : ∀ a b, P a b → RB (f a) (f' b) Q) : RB (o.bind f) (o'.bind f') Q := by
  obtain ⟨a, b, rfl, rfl, hp⟩ := h
  exact k a b hp
theorem rb_mono {α β : Type} {P Q : α → β → Prop} {o : Option α} {o' : Option β} (h : RB o o' P) (k : ∀ a b, P a b → Q a b) : RB o o' Q := by
  obtain ⟨a, b, h1, h2, hp⟩ := h
  exact ⟨a, b, h1, h2, k a b hp⟩
theorem rl_bind {α β γ : Type} {Q : γ → β → Prop} {o : Option α} {a : α} {f : α → Option γ} {o' : Option β} (h : o = some a) (k : RB (f a) o' Q) : RB (o.bind f) o' Q := by rw [h]; exact k
theorem rr_bind {α β γ : Type} {Q : α → γ → Prop} {o : Option α} {b : β} {f : β → Option γ} {o' : Option β} (h : o' = some b) (k : RB o (f b) Q) : RB o (o'.bind f) Q := by rw [h]; exact k
theorem rl_gv {α β γ : Type} {Q : γ → β → Prop} {e : α} {f : α → Option γ} {o' : Option β} (k : RB (f e) o' Q) : RB (gv e f) o' Q := k
theorem rr_gv {α β γ : Type} {Q : α → γ → Prop} {e : β} {f : β → Option γ} {o : Option α} (k : RB o (f e) Q) : RB o (gv e f) Q := k
theorem rl_ck {α β : Type} {Q : α → β → Prop} {b : Bool} {o : Option α} {o' : Option β} (h : b = true) (k : RB o o' Q) : RB (ck b o) o' Q := by rw [ck, if_pos h]; exact k
theorem rr_ck {α β : Type} {Q : α → β → Prop} {b : Bool} {o : Option α} {o' : Option β} (h : b = true) (k : RB o o' Q) : RB o (ck b o') Q := by rw [ck, if_pos h]; exact k
theorem rl_t {α β : Type} {Q : α → β → Prop} {c : Prop} [Decidable c] {a b : Option α} {o' : Option β} (h : c) (k : RB a o' Q) : RB (if c then a else b) o' Q := by rw [if_pos h]; exact k
theorem rl_f {α β : Type} {Q : α → β → Prop} {c : Prop} [Decidable c] {a b : Option α} {o' : Option β} (h : ¬ c) (k : RB b o' Q) : RB (if c then a else b) o' Q := by rw [if_neg h]; exact k
theorem rr_t {α β : Type} {Q : α → β → Prop} {c : Prop} [Decidable c] {a b : Option β} {o : Option α} (h : c) (k : RB o a Q) : RB o (if c then a else b) Q := by rw [if_pos h]; exact k
theorem rr_f {α β : Type} {Q : α → β → Prop} {c : Prop} [Decidable c] {a b : Option β} {o : Option α} (h : ¬ c) (k : RB o b Q) : RB o (if c then a else b) Q := by rw [if_neg h]; exact k
/-- x lies between a and b, as a number of Java's -/
def rg (x a b : Int32) : Int32 := if x < a then 0 else if b < x then 0 else 1
theorem rg_in (x a b : Int32) : sX8_in x a b = some (rg x a b) := rfl
theorem rg_wi (x a b : Int32) : sX7_isWithin x a b = some (rg x a b) := rfl
theorem rg_1 {x a b : Int32} (h : ¬ rg x a b = 0) : ¬ x < a ∧ x ≤ b := by
  unfold rg at h
  by_cases h1 : x < a
  · rw [if_pos h1] at h; exact absurd rfl h
  · rw [if_neg h1] at h
    by_cases h2 : b < x
    · rw [if_pos h2] at h; exact absurd rfl h
    · exact ⟨h1, Int32.not_lt.mp h2⟩
theorem rg_isB (x a b : Int32) : isB (rg x a b) = true := by
  unfold rg
  split
  · rfl
  · split <;> rfl
theorem i32_lt (a b : Int32) : a < b ↔ a.toInt < b.toInt := Int32.lt_iff_toInt_lt
theorem i32_le (a b : Int32) : a ≤ b ↔ a.toInt ≤ b.toInt := Int32.le_iff_toInt_le
theorem rg_upto {x : Int32} (b c : Int32) (h : c.toInt = b.toInt + 1) : (if x < 0 then (0 : Int32) else if c ≤ x then 0 else 1) = rg x 0 b := by
  unfold rg
  by_cases h0 : x < 0
  · rw [if_pos h0, if_pos h0]
  · rw [if_neg h0, if_neg h0]
    by_cases h1 : b < x
    · rw [if_pos h1, if_pos (by rw [i32_le]; rw [i32_lt] at h1; omega)]
    · rw [if_neg h1, if_neg (by rw [i32_le]; rw [i32_lt] at h1; omega)]
theorem jt_7 (x : Int32) : sX7_isJoint x = some (rg x 0 47) := by
  show some _ = _
  rw [rg_upto 47 48 (by decide)]
theorem jt_8 (x : Int32) : sX8_isJoint x = some (rg x 0 47) := by
  show ck (isB (rg x 0 47)) (some (rg x 0 47)) = _
  rw [ck, if_pos (rg_isB _ _ _)]
theorem wy_7 (x : Int32) : sX7_isWay x = some (rg x 0 7) := by
  show some _ = _
  rw [rg_upto 7 8 (by decide)]
/-- a number between two -/
abbrev bt (x : Int32) (a b : Int) : Prop := a ≤ x.toInt ∧ x.toInt ≤ b
/-- the tables: base in the reference, width, how many rows at most, where the reference counts them -/
def tW (n : Nat) : Nat := match n with | 0 => 3 | 1 => 6 | 2 => 3 | 3 => 42 | _ => 5
def tB (n : Nat) : Nat := match n with | 0 => 165 | 1 => 213 | 2 => 637 | 3 => 733 | _ => 1573
def tN (n : Nat) : Nat := match n with | 0 => 16 | 1 => 60 | 2 => 32 | 3 => 20 | _ => 12
def tO (n : Nat) : Nat := match n with | 0 => 1633 | 1 => 1635 | 2 => 1636 | 3 => 1637 | _ => 1638
/-- the cells of a table that are used: of a storm those of its hours -/
def us (n : Nat) (f : Nat → Int32) (j : Nat) : Prop := n = 3 → j % 42 < 2 + ix (f (j / 42 * 42 + 1))
/-- a state of the class (numbers I, rows A, texts T) and the reference's row K of what is kept; X binds a text to its words -/
def SR (X : Txt → Int32 → (Nat → Int32) → (Nat → Int32) → Prop) (G : Nat → Nat → Int32 → Prop) (I : Nat → Int32) (A : Nat → Nat → Int32) (T : Nat → Option Txt) (K : Nat → Int32) : Prop :=
  (∀ j, j < 48 → A 10 j = K j ∧ bt (A 10 j) 1 9) ∧
  (∀ j, j < 48 → A 11 j = K (48 + j) ∧ bt (A 11 j) 0 1) ∧
  (∀ j, j < 48 → A 12 j = K (96 + j) ∧ bt (A 12 j) 0 4) ∧
  (∀ j, j < 6 → A 13 j = K (144 + j) ∧ bt (A 13 j) 0 20) ∧
  (∀ j, j < 6 → A 14 j = K (150 + j) ∧ bt (A 14 j) 0 100000) ∧
  ((∀ j, j < 9 → A 15 j = K (156 + j) ∧ bt (A 15 j) (sv_0 j).toInt (sv_1 j).toInt) ∧ A 15 1 ≤ A 15 0) ∧
  (∀ j, j < 64 → (A 16 j = 10000 ∧ K (573 + j) = -1) ∨ (A 16 j = K (573 + j) ∧ bt (A 16 j) 0 9999)) ∧
  (∀ n, n < 5 → I (30 + 3 * n) = nI (tW n) ∧ I (32 + 3 * n) = K (tO n) ∧ (∃ k, k ≤ tN n ∧ I (32 + 3 * n) = nI k ∧ ∀ j, j < k * tW n → us n (A (31 + 3 * n)) j → A (31 + 3 * n) j = K (tB n + j) ∧ G n (j % tW n) (A (31 + 3 * n) j))) ∧
  (I 23 = K 1634 ∧ ∃ k, k ≤ 8 ∧ I 23 = nI k ∧ ∀ j, j < k → ∃ t, T j = some t ∧ X t (K (1639 + j)) (fun i => K (1647 + 400 * j + i)) (fun i => K (4847 + 400 * j + i)))
/-- the whole: the state, the images, the tape, the wishes and nights, the answers kept -/
def RE (X : Txt → Int32 → (Nat → Int32) → (Nat → Int32) → Prop) (G : Nat → Nat → Int32 → Prop) : RelT := fun I _ A _ T M I1 _ A1 _ =>
  SR X G I A T (A1 1) ∧
  (∀ k, k < 2 → (M k = none ∧ A1 3 k = 0) ∨ ∃ i : Img, M k = some i ∧ A1 3 k = 1 ∧ SR X G i.1 i.2.1 i.2.2 (fun j => A1 2 (8047 * k + j))) ∧
  (I 7 = I1 20 ∧ ∃ k, k ≤ 400 ∧ I 7 = nI k ∧ ∀ j, j < k → A1 18 j = (A 6 j).toInt8.toInt32 ∧ bt (A 6 j) 0 255) ∧
  (I 73 = I1 41 ∧ ∃ k, k ≤ 9 ∧ I 73 = nI k ∧ ∀ j, j < k → A 72 j = A1 40 j ∧ bt (A 72 j) 0 47) ∧
  (∃ k, k ≤ 9 ∧ I 75 = nI k ∧ (I1 45 = nI k ∨ (k = 0 ∧ I1 45 = -1)) ∧ ∀ j, j < k → A 74 j = A1 44 j) ∧
  I 8 = I1 21 ∧ I 9 = I1 0 ∧ ∀ j, j < 107 → A1 17 j = mwf 107 j
section PILOT
variable {X : Txt → Int32 → (Nat → Int32) → (Nat → Int32) → Prop} {G : Nat → Nat → Int32 → Prop}
theorem ps_status : PS_status (RE X G) := by
  intro I J A B T M I1 J1 A1 B1 hr
  exact ⟨I 9, rfl, by rw [hr.2.2.2.2.2.2.1]; rfl, hr⟩
theorem ix_0 (x : Int32) (k : Nat) (h : x = nI k) (hk : k < 2 ^ 31) : ix x = k := by rw [h]; exact nI_clamp hk
theorem ps_count : PS_count (RE X G) := by
  intro x1 I J A B T M I1 J1 A1 B1 hr
  have hq := hr
  obtain ⟨⟨-, -, -, -, -, -, -, htb, h23, -⟩, -, ⟨h7, -⟩, ⟨h73, -⟩, -⟩ := hq
  have e0 : I 32 = A1 1 1633 := (htb 0 (by decide)).2.1
  have e1 : I 35 = A1 1 1635 := (htb 1 (by decide)).2.1
  have e2 : I 38 = A1 1 1636 := (htb 2 (by decide)).2.1
  have e3 : I 41 = A1 1 1637 := (htb 3 (by decide)).2.1
  have e4 : I 44 = A1 1 1638 := (htb 4 (by decide)).2.1
  have hb : RB (sX7_count x1 I J A B) (sX8_count x1 I1 J1 A1 B1) (fun r r' => r = r') := by
    unfold sX7_count sX8_count
    refine rb_if Iff.rfl (fun _ _ => rb_some e0) (fun _ _ => ?_)
    refine rb_if Iff.rfl (fun _ _ => rb_some h23) (fun _ _ => ?_)
    refine rb_if Iff.rfl (fun _ _ => rb_some e1) (fun _ _ => ?_)
    refine rb_if Iff.rfl (fun _ _ => rb_some h73) (fun _ _ => ?_)
    refine rb_if Iff.rfl (fun _ _ => rb_some e2) (fun _ _ => ?_)
    refine rb_if Iff.rfl (fun _ _ => rb_some e3) (fun _ _ => ?_)
    refine rb_if Iff.rfl (fun _ _ => rb_some e4) (fun _ _ => ?_)
    refine rb_if Iff.rfl (fun _ _ => rb_some h7) (fun _ _ => ?_)
    exact rb_some rfl
  obtain ⟨a, b, h1, h2, rfl⟩ := hb
  exact ⟨a, h1, h2, hr⟩
end PILOT
