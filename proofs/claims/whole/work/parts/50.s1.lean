/-! Bearing, by itself: e 0 stiff, e 1 hold, e 2 dead, e 3 area of a tier and those above, e 4 the same by levers, e 5: 0 east, 1 north, 2 lean; g: gone -/
def kF (e : Nat → Nat → Int) (g : Nat → Bool) (t f : Nat) : Int := (if g (8 * t + 2 * f) = true then 0 else e 0 (8 * t + 2 * f)) + (if g (8 * t + 2 * f + 1) = true then 0 else e 0 (8 * t + 2 * f + 1))
def wF (e : Nat → Nat → Int) (g : Nat → Bool) (t : Nat) : Int := kF e g t 0 * kF e g t 2 * (kF e g t 1 + kF e g t 3) + kF e g t 1 * kF e g t 3 * (kF e g t 0 + kF e g t 2)
def sW (n e s w x y : Int) (f : Nat) : Int := match f with
  | 0 => x * (2 * e * w + s * (e + w)) + y * s * (e - w)
  | 1 => y * (2 * n * s + w * (n + s)) - x * w * (s - n)
  | 2 => x * (2 * e * w + n * (e + w)) - y * n * (e - w)
  | _ => y * (2 * n * s + e * (n + s)) + x * e * (s - n)
def sF (e : Nat → Nat → Int) (g : Nat → Bool) (t f : Nat) : Int := sW (kF e g t 0) (kF e g t 1) (kF e g t 2) (kF e g t 3) (e 5 0 * e 3 t) (e 5 1 * e 3 t) f
def uF (e : Nat → Nat → Int) (t f : Nat) : Int := match f with
  | 0 => e 5 1 * (e 4 t * e 5 2)
  | 1 => e 5 0 * (e 4 t * e 5 2)
  | 2 => -(e 5 1 * (e 4 t * e 5 2))
  | _ => -(e 5 0 * (e 4 t * e 5 2))
def okf (e : Nat → Nat → Int) (g : Nat → Bool) (t f : Nat) : Bool := !(decide (kF e g t f = 0)) || decide (uF e t f = 0)
def okF (e : Nat → Nat → Int) (g : Nat → Bool) (t : Nat) : Bool := !(decide (wF e g t = 0)) && (okf e g t 0 && (okf e g t 1 && (okf e g t 2 && okf e g t 3)))
theorem okf_i (e : Nat → Nat → Int) (g : Nat → Bool) (t f : Nat) : okf e g t f = true ↔ (¬ kF e g t f = 0 ∨ uF e t f = 0) := by
  unfold okf
  rw [Bool.or_eq_true_iff, Bool.not_eq_true', decide_eq_false_iff_not, decide_eq_true_iff]
theorem okF_i (e : Nat → Nat → Int) (g : Nat → Bool) (t : Nat) : okF e g t = true ↔ (¬ wF e g t = 0 ∧ ∀ f, f < 4 → (¬ kF e g t f = 0 ∨ uF e t f = 0)) := by
  unfold okF
  rw [Bool.and_eq_true_iff, Bool.and_eq_true_iff, Bool.and_eq_true_iff, Bool.and_eq_true_iff, Bool.not_eq_true', decide_eq_false_iff_not, okf_i, okf_i, okf_i, okf_i]
  refine and_congr_right (fun _ => ⟨fun ⟨h0, h1, h2, h3⟩ f hf => ?_, fun h => ⟨h 0 (by decide), h 1 (by decide), h 2 (by decide), h 3 (by decide)⟩⟩)
  match f, hf with
  | 0, _ => exact h0
  | 1, _ => exact h1
  | 2, _ => exact h2
  | 3, _ => exact h3
  | f + 4, hf => omega
def dF (e : Nat → Nat → Int) (g : Nat → Bool) (t f : Nat) : Int := 1000 * kF e g t f * (2 * wF e g t)
def pF (e : Nat → Nat → Int) (g : Nat → Bool) (j : Nat) : Int := e 0 j * ((if j % 2 = 0 then sF e g (j / 8) (j / 2 % 4) * (1000 * kF e g (j / 8) (j / 2 % 4)) else -(sF e g (j / 8) (j / 2 % 4) * (1000 * kF e g (j / 8) (j / 2 % 4)))) + uF e (j / 8) (j / 2 % 4) * (2 * wF e g (j / 8)))
def oF (e : Nat → Nat → Int) (g : Nat → Bool) (j : Nat) : Int := pF e g j - 1000 * (e 2 (j / 8) + e 1 j) * dF e g (j / 8) (j / 2 % 4)
def qF (e : Nat → Nat → Int) (g : Nat → Bool) (j : Nat) : Option Int := if g j = true then none else if oF e g j ≤ 0 then none else some ((oF e g j).tdiv (dF e g (j / 8) (j / 2 % 4)))
/-- the first of the greatest -/
def cb (a b : Option (Nat × Int)) : Option (Nat × Int) := match a, b with
  | none, b => b
  | some p, none => some p
  | some p, some q => if p.2 < q.2 then some q else some p
def sg (q : Nat → Option Int) (j : Nat) : Option (Nat × Int) := match q j with
  | none => none
  | some v => some (j, v)
def bT (q : Nat → Option Int) (b : Nat) : Nat → Option (Nat × Int)
  | 0 => none
  | i + 1 => cb (bT q b i) (sg q (b + i))
def bG (q : Nat → Option Int) : Nat → Option (Nat × Int)
  | 0 => none
  | t + 1 => cb (bG q t) (bT q (8 * t) 8)
def ad (g : Nat → Bool) (j : Nat) : Nat → Bool := fun i => if i = j then true else g i
def runL (e : Nat → Nat → Int) (t : Nat) : Nat → (Nat → Bool) → Bool
  | 0, _ => false
  | m + 1, g => if okF e g t = true then (match bT (qF e g) (8 * t) 8 with
    | none => false
    | some p => runL e t m (ad g p.1)) else true
/-- the lowest tier that stands not -/
def lowF (e : Nat → Nat → Int) (g : Nat → Bool) : Nat → Option Nat
  | 0 => none
  | n + 1 => match lowF e g n with
    | some t => some t
    | none => if okF e g n = true then none else some n
def runG (e : Nat → Nat → Int) : Nat → (Nat → Bool) → List Nat → List Nat × Option Nat
  | 0, _, o => (o, none)
  | m + 1, g, o => match lowF e g 6 with
    | some t => (o, some t)
    | none => match bG (qF e g) 6 with
      | none => (o, none)
      | some p => runG e m (ad g p.1) (o ++ [p.1])
theorem cb_n (b : Option (Nat × Int)) : cb none b = b := rfl
theorem cb_r (a : Option (Nat × Int)) : cb a none = a := by cases a <;> rfl
theorem cb_a (a b c : Option (Nat × Int)) : cb (cb a b) c = cb a (cb b c) := by
  cases a with
  | none => rfl
  | some p =>
    cases b with
    | none => rfl
    | some q =>
      cases c with
      | none => rw [cb_r, cb_r]
      | some r =>
        show cb (if p.2 < q.2 then some q else some p) (some r) = cb (some p) (if q.2 < r.2 then some r else some q)
        by_cases h1 : p.2 < q.2
        · rw [if_pos h1]
          by_cases h2 : q.2 < r.2
          · rw [if_pos h2]
            show (if q.2 < r.2 then some r else some q) = (if p.2 < r.2 then some r else some p)
            rw [if_pos h2, if_pos (by omega)]
          · rw [if_neg h2]
            show (if q.2 < r.2 then some r else some q) = (if p.2 < q.2 then some q else some p)
            rw [if_neg h2, if_pos h1]
        · rw [if_neg h1]
          by_cases h2 : q.2 < r.2
          · rw [if_pos h2]
          · rw [if_neg h2]
            show (if p.2 < r.2 then some r else some p) = (if p.2 < q.2 then some q else some p)
            rw [if_neg h1, if_neg (by omega)]
theorem cb_s {a b : Option (Nat × Int)} {p : Nat × Int} (h : cb a b = some p) : a = some p ∨ b = some p := by
  cases a with
  | none => exact Or.inr h
  | some x =>
    cases b with
    | none => exact Or.inl h
    | some y =>
      have h : (if x.2 < y.2 then some y else some x) = some p := h
      by_cases h1 : x.2 < y.2
      · rw [if_pos h1] at h; exact Or.inr h
      · rw [if_neg h1] at h; exact Or.inl h
theorem cb_e {a b : Option (Nat × Int)} (h : cb a b = none) : a = none ∧ b = none := by
  cases a with
  | none => exact ⟨rfl, h⟩
  | some x =>
    cases b with
    | none => cases h
    | some y =>
      have h : (if x.2 < y.2 then some y else some x) = none := h
      by_cases h1 : x.2 < y.2
      · rw [if_pos h1] at h; cases h
      · rw [if_neg h1] at h; cases h
theorem sg_s {q : Nat → Option Int} {j : Nat} {p : Nat × Int} (h : sg q j = some p) : p.1 = j ∧ q j = some p.2 := by
  unfold sg at h
  cases hq : q j with
  | none => rw [hq] at h; cases h
  | some v => rw [hq] at h; cases h; exact ⟨rfl, rfl⟩
theorem bT_s {q : Nat → Option Int} {b : Nat} : ∀ {i : Nat} {p : Nat × Int}, bT q b i = some p → b ≤ p.1 ∧ p.1 < b + i ∧ q p.1 = some p.2 := by
  intro i
  induction i with
  | zero => intro p h; cases h
  | succ i ih =>
    intro p h
    rcases cb_s h with h | h
    · have := ih h; exact ⟨this.1, by omega, this.2.2⟩
    · obtain ⟨h1, h2⟩ := sg_s h
      refine ⟨by omega, by omega, by rw [h1]; exact h2⟩
theorem bG_s {q : Nat → Option Int} : ∀ {t : Nat} {p : Nat × Int}, bG q t = some p → p.1 < 8 * t ∧ q p.1 = some p.2 ∧ bT q (8 * (p.1 / 8)) 8 = some p := by
  intro t
  induction t with
  | zero => intro p h; cases h
  | succ t ih =>
    intro p h
    rcases cb_s h with h | h
    · have := ih h; exact ⟨by omega, this.2⟩
    · obtain ⟨h1, h2, h3⟩ := bT_s h
      refine ⟨by omega, h3, ?_⟩
      rw [show p.1 / 8 = t by omega]
      exact h
theorem bG_e {q : Nat → Option Int} : ∀ {t : Nat}, bG q t = none → ∀ i, i < t → bT q (8 * i) 8 = none := by
  intro t
  induction t with
  | zero => intro _ i hi; omega
  | succ t ih =>
    intro h i hi
    obtain ⟨h1, h2⟩ := cb_e h
    by_cases e : i = t
    · subst e; exact h2
    · exact ih h1 i (by omega)
theorem bT_x {q q' : Nat → Option Int} {b : Nat} : ∀ i, (∀ j, b ≤ j → j < b + i → q j = q' j) → bT q b i = bT q' b i := by
  intro i
  induction i with
  | zero => intro _; rfl
  | succ i ih =>
    intro h
    show cb (bT q b i) (sg q (b + i)) = cb (bT q' b i) (sg q' (b + i))
    rw [ih (fun j h1 h2 => h j h1 (by omega))]
    unfold sg
    rw [h (b + i) (by omega) (by omega)]
theorem bT_0 {q : Nat → Option Int} {b : Nat} : ∀ i, (∀ j, b ≤ j → j < b + i → q j = none) → bT q b i = none := by
  intro i
  induction i with
  | zero => intro _; rfl
  | succ i ih =>
    intro h
    show cb (bT q b i) (sg q (b + i)) = none
    rw [ih (fun j h1 h2 => h j h1 (by omega))]
    unfold sg
    rw [h (b + i) (by omega) (by omega)]
    rfl
theorem bT_n {q : Nat → Option Int} {b : Nat} : ∀ {i : Nat}, bT q b i = none → ∀ j, b ≤ j → j < b + i → q j = none := by
  intro i
  induction i with
  | zero => intro _ j h1 h2; omega
  | succ i ih =>
    intro h j h1 h2
    obtain ⟨a, c⟩ := cb_e h
    by_cases e : j = b + i
    · subst e
      unfold sg at c
      cases hq : q (b + i) with
      | none => rfl
      | some v => rw [hq] at c; cases c
    · exact ih a j h1 (by omega)
/-- a tier looks at its own joints alone -/
theorem kF_x {e e' : Nat → Nat → Int} {g g' : Nat → Bool} {t : Nat} (h0 : ∀ i, e 0 i = e' 0 i) (hg : ∀ i, i / 8 = t → g i = g' i) {f : Nat} (hf : f < 4) : kF e g t f = kF e' g' t f := by
  unfold kF
  rw [hg (8 * t + 2 * f) (by omega), hg (8 * t + 2 * f + 1) (by omega), h0, h0]
theorem wF_x {e e' : Nat → Nat → Int} {g g' : Nat → Bool} {t : Nat} (h0 : ∀ i, e 0 i = e' 0 i) (hg : ∀ i, i / 8 = t → g i = g' i) : wF e g t = wF e' g' t := by
  unfold wF
  rw [kF_x h0 hg (show 0 < 4 by decide), kF_x h0 hg (show 1 < 4 by decide), kF_x h0 hg (show 2 < 4 by decide), kF_x h0 hg (show 3 < 4 by decide)]
theorem okF_x {e e' : Nat → Nat → Int} {g g' : Nat → Bool} {t : Nat} (h : ∀ k i, ¬ k = 1 → e k i = e' k i) (hg : ∀ i, i / 8 = t → g i = g' i) : okF e g t = okF e' g' t := by
  have h0 : ∀ i, e 0 i = e' 0 i := fun i => h 0 i (by decide)
  have hu : ∀ f, uF e t f = uF e' t f := by
    intro f
    unfold uF
    rw [h 5 1 (by decide), h 5 0 (by decide), h 5 2 (by decide), h 4 t (by decide)]
  have hk : (¬ wF e g t = 0 ∧ ∀ f, f < 4 → (¬ kF e g t f = 0 ∨ uF e t f = 0)) ↔ (¬ wF e' g' t = 0 ∧ ∀ f, f < 4 → (¬ kF e' g' t f = 0 ∨ uF e' t f = 0)) := by
    rw [wF_x h0 hg]
    refine and_congr_right (fun _ => ⟨fun q f hf => ?_, fun q f hf => ?_⟩)
    · rw [← kF_x h0 hg hf, ← hu]; exact q f hf
    · rw [kF_x h0 hg hf, hu]; exact q f hf
  exact Bool.eq_iff_iff.mpr ((okF_i _ _ _).trans (hk.trans (okF_i _ _ _).symm))
theorem pF_x {e e' : Nat → Nat → Int} {g g' : Nat → Bool} {j : Nat} (h : ∀ k i, ¬ k = 1 → e k i = e' k i) (hg : ∀ i, i / 8 = j / 8 → g i = g' i) : pF e g j = pF e' g' j ∧ dF e g (j / 8) (j / 2 % 4) = dF e' g' (j / 8) (j / 2 % 4) := by
  have h0 : ∀ i, e 0 i = e' 0 i := fun i => h 0 i (by decide)
  have hu : uF e (j / 8) (j / 2 % 4) = uF e' (j / 8) (j / 2 % 4) := by
    unfold uF
    rw [h 5 1 (by decide), h 5 0 (by decide), h 5 2 (by decide), h 4 _ (by decide)]
  have hs : sF e g (j / 8) (j / 2 % 4) = sF e' g' (j / 8) (j / 2 % 4) := by
    unfold sF
    rw [kF_x h0 hg (show 0 < 4 by decide), kF_x h0 hg (show 1 < 4 by decide), kF_x h0 hg (show 2 < 4 by decide), kF_x h0 hg (show 3 < 4 by decide), h 5 1 (by decide), h 5 0 (by decide), h 3 _ (by decide)]
  unfold pF dF
  rw [kF_x h0 hg (show j / 2 % 4 < 4 by omega), wF_x h0 hg, hu, hs, h0]
  exact ⟨rfl, rfl⟩
theorem qF_x {e e' : Nat → Nat → Int} {g g' : Nat → Bool} {j : Nat} (h : ∀ k i, ¬ k = 1 → e k i = e' k i) (h1 : e 1 j = e' 1 j) (hg : ∀ i, i / 8 = j / 8 → g i = g' i) : qF e g j = qF e' g' j := by
  obtain ⟨a, b⟩ := pF_x h hg
  unfold qF oF
  rw [a, b, h 2 _ (by decide), h1, hg j rfl]
theorem runL_x {e e' : Nat → Nat → Int} {t : Nat} (h : ∀ k i, ¬ k = 1 → e k i = e' k i) (h1 : ∀ i, i / 8 = t → e 1 i = e' 1 i) : ∀ (m : Nat) (g g' : Nat → Bool), (∀ i, i / 8 = t → g i = g' i) → runL e t m g = runL e' t m g' := by
  intro m
  induction m with
  | zero => intro g g' _; rfl
  | succ m ih =>
    intro g g' hg
    have hb : bT (qF e g) (8 * t) 8 = bT (qF e' g') (8 * t) 8 := bT_x 8 (fun j k1 k2 => qF_x h (h1 j (by omega)) (fun i hi => hg i (by omega)))
    rw [runL, runL, okF_x h hg, hb]
    by_cases c : okF e' g' t = true
    · rw [if_pos c, if_pos c]
      cases hb2 : bT (qF e' g') (8 * t) 8 with
      | none => rfl
      | some p => exact ih _ _ (fun i hi => by unfold ad; rw [hg i hi])
    · rw [if_neg c, if_neg c]
theorem qF_g {e : Nat → Nat → Int} {g : Nat → Bool} {j : Nat} {v : Int} (h : qF e g j = some v) : g j = false ∧ 0 < oF e g j ∧ v = (oF e g j).tdiv (dF e g (j / 8) (j / 2 % 4)) := by
  unfold qF at h
  by_cases c : g j = true
  · rw [if_pos c] at h; cases h
  · rw [if_neg c] at h
    by_cases d : oF e g j ≤ 0
    · rw [if_pos d] at h; cases h
    · rw [if_neg d] at h
      cases h
      exact ⟨by simpa using c, by omega, rfl⟩
/-- how many of the first n stand -/
def cn (g : Nat → Bool) (b : Nat) : Nat → Nat
  | 0 => 0
  | n + 1 => cn g b n + (if g (b + n) = true then 0 else 1)
theorem cn_ad {g : Nat → Bool} {b j : Nat} (hj : g j = false) : ∀ n, cn (ad g j) b n + (if b ≤ j ∧ j < b + n then 1 else 0) = cn g b n := by
  intro n
  induction n with
  | zero => rw [if_neg (by omega)]; rfl
  | succ n ih =>
    show cn (ad g j) b n + (if ad g j (b + n) = true then 0 else 1) + (if b ≤ j ∧ j < b + (n + 1) then 1 else 0) = cn g b n + (if g (b + n) = true then 0 else 1)
    rw [← ih]
    by_cases e : b + n = j
    · subst e
      rw [show ad g (b + n) (b + n) = true from if_pos rfl, if_pos rfl, if_pos (by omega), if_neg (show ¬ (b ≤ b + n ∧ b + n < b + n) by omega), hj, if_neg (by decide)]
    · rw [show ad g j (b + n) = g (b + n) from if_neg e]
      by_cases c : b ≤ j ∧ j < b + n
      · rw [if_pos c, if_pos (show b ≤ j ∧ j < b + (n + 1) by omega)]; omega
      · rw [if_neg c, if_neg (show ¬ (b ≤ j ∧ j < b + (n + 1)) by omega)]; omega
theorem runL_m {e : Nat → Nat → Int} {t : Nat} : ∀ (m : Nat) (g : Nat → Bool), runL e t m g = true → runL e t (m + 1) g = true := by
  intro m
  induction m with
  | zero => intro g h; cases h
  | succ m ih =>
    intro g h
    rw [runL] at h ⊢
    by_cases c : okF e g t = true
    · rw [if_pos c] at h ⊢
      cases hb : bT (qF e g) (8 * t) 8 with
      | none => rw [hb] at h; cases h
      | some p => rw [hb] at h; exact ih _ h
    · rw [if_neg c]
theorem runL_k {e : Nat → Nat → Int} {t m : Nat} {g : Nat → Bool} (h : runL e t m g = true) : ∀ k, runL e t (m + k) g = true := by
  intro k
  induction k with
  | zero => exact h
  | succ k ih => exact runL_m _ _ ih
theorem runL_9 {e : Nat → Nat → Int} {t : Nat} : ∀ (m : Nat) (g : Nat → Bool), runL e t m g = true → runL e t (cn g (8 * t) 8 + 1) g = true := by
  intro m
  induction m with
  | zero => intro g h; cases h
  | succ m ih =>
    intro g h
    rw [runL] at h ⊢
    by_cases c : okF e g t = true
    · rw [if_pos c] at h ⊢
      cases hb : bT (qF e g) (8 * t) 8 with
      | none => rw [hb] at h; cases h
      | some p =>
        rw [hb] at h
        obtain ⟨p1, p2, p3⟩ := bT_s hb
        have hc := cn_ad (b := 8 * t) (qF_g p3).1 8
        rw [if_pos ⟨p1, p2⟩] at hc
        rw [← hc]
        exact ih _ h
    · rw [if_neg c]
theorem lowF_s {e : Nat → Nat → Int} {g : Nat → Bool} : ∀ {n t : Nat}, lowF e g n = some t → t < n ∧ ¬ okF e g t = true ∧ ∀ i, i < t → okF e g i = true := by
  intro n
  induction n with
  | zero => intro t h; cases h
  | succ n ih =>
    have hn : lowF e g n = none → ∀ i, i < n → okF e g i = true := by
      clear ih
      induction n with
      | zero => intro _ i hi; omega
      | succ n ih2 =>
        intro h i hi
        rw [lowF] at h
        cases hl : lowF e g n with
        | some t => rw [hl] at h; cases h
        | none =>
          rw [hl] at h
          by_cases c : okF e g n = true
          · by_cases e : i = n
            · subst e; exact c
            · exact ih2 hl i (by omega)
          · simp only [if_neg c] at h; cases h
    intro t h
    rw [lowF] at h
    cases hl : lowF e g n with
    | some u => rw [hl] at h; cases h; have := ih hl; exact ⟨by omega, this.2⟩
    | none =>
      rw [hl] at h
      by_cases c : okF e g n = true
      · simp only [if_pos c] at h; cases h
      · simp only [if_neg c] at h
        cases h
        exact ⟨by omega, c, hn hl⟩
theorem lowF_n {e : Nat → Nat → Int} {g : Nat → Bool} : ∀ {n : Nat}, lowF e g n = none → ∀ i, i < n → okF e g i = true := by
  intro n
  induction n with
  | zero => intro _ i hi; omega
  | succ n ih2 =>
    intro h i hi
    rw [lowF] at h
    cases hl : lowF e g n with
    | some t => rw [hl] at h; cases h
    | none =>
      rw [hl] at h
      by_cases c : okF e g n = true
      · by_cases e : i = n
        · subst e; exact c
        · exact ih2 hl i (by omega)
      · simp only [if_neg c] at h; cases h
theorem lowF_a {e : Nat → Nat → Int} {g : Nat → Bool} : ∀ {n : Nat}, (∀ i, i < n → okF e g i = true) → lowF e g n = none := by
  intro n
  induction n with
  | zero => intro _; rfl
  | succ n ih =>
    intro h
    rw [lowF, ih (fun i hi => h i (by omega))]
    simp only [if_pos (h n (by omega))]
/-- it falls if and only if one of its tiers does so by itself -/
theorem tg_1 {e : Nat → Nat → Int} : ∀ (n : Nat) (g : Nat → Bool) (o : List Nat), cn g 0 48 < n → ((runG e n g o).2 ≠ none ↔ ∃ t, t < 6 ∧ ∃ m, runL e t m g = true) := by
  intro n
  induction n with
  | zero => intro g o h; omega
  | succ n ih =>
    intro g o h
    rw [runG]
    cases hl : lowF e g 6 with
    | some t =>
      obtain ⟨h1, h2, -⟩ := lowF_s hl
      refine ⟨fun _ => ⟨t, h1, 1, ?_⟩, fun _ => by simp⟩
      rw [runL, if_neg h2]
    | none =>
      have hk := lowF_n hl
      cases hb : bG (qF e g) 6 with
      | none =>
        refine ⟨fun q => absurd rfl q, fun ⟨t, ht, m, hm⟩ => ?_⟩
        exfalso
        cases m with
        | zero => cases hm
        | succ m => rw [runL, if_pos (hk t ht), bG_e hb t ht] at hm; cases hm
      | some p =>
        obtain ⟨p1, p2, p3⟩ := bG_s hb
        have hc := cn_ad (b := 0) (qF_g p2).1 48
        rw [if_pos (by omega)] at hc
        refine (ih (ad g p.1) (o ++ [p.1]) (by omega)).trans ⟨fun ⟨t, ht, m, hm⟩ => ?_, fun ⟨t, ht, m, hm⟩ => ?_⟩
        · by_cases e1 : t = p.1 / 8
          · subst e1
            refine ⟨_, ht, m + 1, ?_⟩
            rw [runL, if_pos (hk _ ht), p3]
            exact hm
          · refine ⟨t, ht, m, ?_⟩
            rw [← hm]
            exact runL_x (fun _ _ _ => rfl) (fun _ _ => rfl) m _ _ (fun i hi => (if_neg (fun q => e1 (by rw [← hi, q]))).symm)
        · by_cases e1 : t = p.1 / 8
          · subst e1
            cases m with
            | zero => cases hm
            | succ m =>
              rw [runL, if_pos (hk _ ht), p3] at hm
              exact ⟨_, ht, m, hm⟩
          · refine ⟨t, ht, m, ?_⟩
            rw [← hm]
            exact runL_x (fun _ _ _ => rfl) (fun _ _ => rfl) m _ _ (fun i hi => if_neg (fun q => e1 (by rw [← hi, q])))
