/-! tokens: a tape of bytes tp, of z bytes -/
def lt8 (b : Nat) : Bool := decide (97 ≤ b) && decide (b ≤ 122)
def dg8 (b : Nat) : Bool := decide (48 ≤ b) && decide (b ≤ 57)
def bl8 (b : Nat) : Bool := decide (b = 32)
theorem tb_1 : ∀ b, b < 256 → sX3_isLetter (nI b) = some (if lt8 b = true then 1 else 0) ∧ sX8_isSmall ((nI b).toInt8.toInt32) = some (if lt8 b = true then 1 else 0) ∧ sX3_isDigit (nI b) = some (if dg8 b = true then 1 else 0) ∧ sX8_isDigit ((nI b).toInt8.toInt32) = some (if dg8 b = true then 1 else 0) ∧ (nI b = 32 ↔ bl8 b = true) ∧ ((nI b).toInt8.toInt32 = 32 ↔ bl8 b = true) ∧ (nI b).toInt8.toInt32 &&& 255 = nI b ∧ (b < 128 → (nI b).toInt8.toInt32 = nI b) := by decide +kernel
/-- how far a row of such bytes goes on from p -/
def rnF (P : Nat → Bool) (tp : Nat → Nat) : Nat → Nat → Nat
  | 0, p => p
  | f + 1, p => if P (tp p) = true then rnF P tp f (p + 1) else p
def rn (P : Nat → Bool) (tp : Nat → Nat) (z p : Nat) : Nat := rnF P tp (z - p) p
theorem rn_e {P : Nat → Bool} {tp : Nat → Nat} {z p : Nat} (h : z ≤ p) : rn P tp z p = p := by
  unfold rn
  rw [show z - p = 0 by omega]
  rfl
theorem rn_y {P : Nat → Bool} {tp : Nat → Nat} {z p : Nat} (h : p < z) (hp : P (tp p) = true) : rn P tp z p = rn P tp z (p + 1) := by
  unfold rn
  rw [show z - p = (z - (p + 1)) + 1 by omega]
  show (if P (tp p) = true then _ else _) = _
  rw [if_pos hp]
theorem rn_n {P : Nat → Bool} {tp : Nat → Nat} {z p : Nat} (hp : ¬ P (tp p) = true) : rn P tp z p = p := by
  unfold rn
  cases z - p with
  | zero => rfl
  | succ f =>
    show (if P (tp p) = true then _ else _) = _
    rw [if_neg hp]
theorem rn_s {P : Nat → Bool} {tp : Nat → Nat} {z : Nat} : ∀ (d p : Nat), z - p = d → p ≤ z → p ≤ rn P tp z p ∧ rn P tp z p ≤ z ∧ (∀ i, p ≤ i → i < rn P tp z p → P (tp i) = true) ∧ (rn P tp z p < z → ¬ P (tp (rn P tp z p)) = true) := by
  intro d
  induction d with
  | zero =>
    intro p hd hp
    rw [rn_e (by omega)]
    exact ⟨Nat.le_refl _, hp, fun i h1 h2 => by omega, fun h => by omega⟩
  | succ d ih =>
    intro p hd hp
    by_cases h : P (tp p) = true
    · rw [rn_y (by omega) h]
      obtain ⟨a, b, c, e⟩ := ih (p + 1) (by omega) (by omega)
      refine ⟨by omega, b, fun i h1 h2 => ?_, e⟩
      by_cases q : i = p
      · rw [q]; exact h
      · exact c i (by omega) h2
    · rw [rn_n h]
      exact ⟨Nat.le_refl _, hp, fun i h1 h2 => by omega, fun _ => h⟩
/-- where a token that begins at p ends -/
def te (tp : Nat → Nat) (z p : Nat) : Nat := if lt8 (tp p) = true then rn lt8 tp z p else if dg8 (tp p) = true then rn dg8 tp z p else p + 1
/-- where the k-th token begins -/
def st8 (tp : Nat → Nat) (z : Nat) : Nat → Nat
  | 0 => rn bl8 tp z 0
  | k + 1 => if st8 tp z k < z then rn bl8 tp z (te tp z (st8 tp z k)) else st8 tp z k
theorem te_b {tp : Nat → Nat} {z p : Nat} (h : p < z) : p < te tp z p ∧ te tp z p ≤ z := by
  unfold te
  by_cases h1 : lt8 (tp p) = true
  · rw [if_pos h1, rn_y h h1]
    have := rn_s (P := lt8) (tp := tp) (z := z) _ (p + 1) rfl (by omega)
    omega
  · rw [if_neg h1]
    by_cases h2 : dg8 (tp p) = true
    · rw [if_pos h2, rn_y h h2]
      have := rn_s (P := dg8) (tp := tp) (z := z) _ (p + 1) rfl (by omega)
      omega
    · rw [if_neg h2]; omega
theorem st_b {tp : Nat → Nat} {z : Nat} : ∀ k, st8 tp z k ≤ z ∧ (st8 tp z k < z → k ≤ st8 tp z k ∧ bl8 (tp (st8 tp z k)) = false) := by
  have hne : ∀ p, p ≤ z → rn bl8 tp z p < z → bl8 (tp (rn bl8 tp z p)) = false := fun p hp h => by
    have := (rn_s (P := bl8) (tp := tp) (z := z) _ p rfl hp).2.2.2 h
    simpa using this
  intro k
  induction k with
  | zero =>
    have := rn_s (P := bl8) (tp := tp) (z := z) _ 0 rfl (by omega)
    exact ⟨this.2.1, fun h => ⟨Nat.zero_le _, hne 0 (by omega) h⟩⟩
  | succ k ih =>
    rw [st8]
    by_cases h : st8 tp z k < z
    · rw [if_pos h]
      have ht := te_b (tp := tp) h
      have := rn_s (P := bl8) (tp := tp) (z := z) _ (te tp z (st8 tp z k)) rfl ht.2
      exact ⟨this.2.1, fun q => ⟨by have := (ih.2 h).1; omega, hne _ ht.2 q⟩⟩
    · rw [if_neg h]
      exact ⟨ih.1, fun q => absurd q h⟩
theorem st_m {tp : Nat → Nat} {z k : Nat} (h : st8 tp z k < z) : te tp z (st8 tp z k) ≤ st8 tp z (k + 1) := by
  rw [st8, if_pos h]
  exact (rn_s (P := bl8) (tp := tp) (z := z) _ _ rfl (te_b h).2).1
/-! words -/
def wo (w : Nat) : Nat := [0, 5, 10, 15, 18, 21, 25, 29, 36, 43, 50, 55, 60, 65, 70, 75, 79, 85, 89, 96, 100].getD w 107
def wl (w : Nat) : Nat := [4, 4, 4, 2, 2, 3, 3, 6, 6, 6, 4, 4, 4, 4, 4, 3, 5, 3, 6, 3, 6].getD w 0
def cp (c : Nat) : Nat := if c < 7 then c else if c < 17 then c + 4 else c - 10
theorem d_1 : ∀ w, w < 21 → wo (w + 1) = wo w + wl w + 1 ∧ wo w + wl w < 107 ∧ wl w ≤ 6 ∧ mwf 107 (wo w + wl w) = 32 ∧ ∀ i, i < wl w → ¬ mwf 107 (wo w + i) = 32 := by decide +kernel
theorem d_3 : ∀ c, c < 21 → cp c < 21 ∧ ∀ i, i < 6 → wch (c * 6 + i) = if i < wl (cp c) then mwf 107 (wo (cp c) + i) else 32 := by decide +kernel
theorem d_4 : ∀ w, w < 21 → ∀ w', w' < 21 → wl w = wl w' → (∀ i, i < wl w → mwf 107 (wo w + i) = mwf 107 (wo w' + i)) → w = w' := by decide +kernel
theorem d_5 : ∀ c, c < 21 → ∀ c', c' < 21 → cp c = cp c' → c = c' := by decide +kernel
/-- the bytes from p to e are the word w -/
def mt (tp : Nat → Nat) (p e w : Nat) : Prop := e - p = wl w ∧ ∀ i, i < wl w → nI (tp (p + i)) = mwf 107 (wo w + i)
theorem mt_u {tp : Nat → Nat} {p e w w' : Nat} (h : w < 21) (h' : w' < 21) (m : mt tp p e w) (m' : mt tp p e w') : w = w' := by
  refine d_4 w h w' h' (by rw [← m.1, m'.1]) (fun i hi => ?_)
  rw [← m.2 i hi]
  exact m'.2 i (by rw [← m'.1, m.1]; exact hi)
/-- the word's number, from 1 on; 0 without -/
def WX (tp : Nat → Nat) (p e x : Nat) : Prop := (1 ≤ x ∧ x ≤ 21 ∧ mt tp p e (x - 1)) ∨ (x = 0 ∧ ∀ w, w < 21 → ¬ mt tp p e w)
section X1
variable {I I1 : Nat → Int32} {J J1 : Nat → Int64} {A A1 : Nat → Nat → Int32} {B B1 : Nat → Nat → Int64} {tp : Nat → Nat} {z p e : Nat}
/-- both tapes -/
def TP (tp : Nat → Nat) (z : Nat) (A A1 : Nat → Nat → Int32) : Prop := z ≤ 400 ∧ ∀ i, i < z → tp i < 256 ∧ A 6 i = nI (tp i) ∧ A1 18 i = (nI (tp i)).toInt8.toInt32
theorem wn_8 {w : Nat} (h17 : ∀ j, j < 107 → A1 17 j = mwf 107 j) (hw : w < 21) {x1 x2 x3 : Int32} : lX8_wordOf_18 FU x1 x2 x3 (nI (wo w)) 0 I1 J1 A1 B1 = some (nI (wl w)) := by
  obtain ⟨-, d2, d3, d4, d5⟩ := d_1 w hw
  have hl : ∀ f i, wl w < i + f → i ≤ wl w → lX8_wordOf_18 f x1 x2 x3 (nI (wo w)) (nI i) I1 J1 A1 B1 = some (nI (wl w)) := by
    intro f
    induction f with
    | zero => intro i h1 h2; omega
    | succ f ih =>
      intro i h1 h2
      rw [lX8_wordOf_18, nI_add, ck, if_pos (inB_n (by omega) (by decide)), ix_n (by omega), h17 _ (by omega)]
      by_cases q : i = wl w
      · subst q
        rw [if_pos d4]
      · rw [if_neg (d5 i (by omega))]
        dsimp only [gv]
        rw [nI_1]
        exact ih (i + 1) (by omega) (by omega)
  exact hl FU 0 (by unfold FU; omega) (Nat.zero_le _)
theorem wm_8 {w : Nat} (ht : TP tp z A A1) (h17 : ∀ j, j < 107 → A1 17 j = mwf 107 j) (hw : w < 21) (hpe : p ≤ e) (hez : e ≤ z) (hlt : ∀ i, p ≤ i → i < e → lt8 (tp i) = true) {x2 x3 : Int32} : ∃ r : Int32, lX8_wordOf_57 FU (nI p) x2 x3 (nI (wo w)) (nI (wl w)) (if nI (wl w) = nI e - nI p then 1 else 0) 0 I1 J1 A1 B1 = some r ∧ (r = 0 ∨ r = 1) ∧ (r = 1 ↔ mt tp p e w) := by
  obtain ⟨-, d2, d3, -, -⟩ := d_1 w hw
  have hz := ht.1
  rw [pk_sub hpe]
  by_cases hlen : e - p = wl w
  · rw [if_pos (by rw [hlen])]
    have hl : ∀ (f i : Nat), wl w < i + f → i ≤ wl w → (∀ q, q < i → nI (tp (p + q)) = mwf 107 (wo w + q)) → ∃ r : Int32, lX8_wordOf_57 f (nI p) x2 x3 (nI (wo w)) (nI (wl w)) 1 (nI i) I1 J1 A1 B1 = some r ∧ (r = 0 ∨ r = 1) ∧ (r = 1 ↔ mt tp p e w) := by
      intro f
      induction f with
      | zero => intro i h1 h2; omega
      | succ f ih =>
        intro i h1 h2 hq
        rw [lX8_wordOf_57]
        by_cases c : i = wl w
        · subst c
          rw [if_pos ((nn_le (by omega) (by omega)).mpr (Nat.le_refl _))]
          exact ⟨1, rfl, Or.inr rfl, fun _ => ⟨hlen, hq⟩, fun _ => rfl⟩
        · rw [if_neg (by rw [nn_le (by omega) (by omega)]; omega), if_neg (by decide), nI_add, nI_add, ck, if_pos (inB_n (by omega) (by decide)), ck, if_pos (inB_n (by omega) (by decide)), ix_n (by omega), ix_n (by omega), h17 _ (by omega)]
          obtain ⟨t1, -, t3⟩ := ht.2 (p + i) (by omega)
          have hl8 := hlt (p + i) (by omega) (by omega)
          have h128 : tp (p + i) < 128 := by
            unfold lt8 at hl8
            have := of_decide_eq_true (Bool.and_eq_true_iff.mp hl8).2
            omega
          rw [t3, (tb_1 _ t1).2.2.2.2.2.2.2 h128]
          dsimp only [gv]
          rw [nI_1]
          by_cases y : mwf 107 (wo w + i) = nI (tp (p + i))
          · rw [if_pos y]
            exact ih (i + 1) (by omega) (by omega) (fun q hq2 => by
              by_cases x : q = i
              · subst x; exact y.symm
              · exact hq q (by omega))
          · rw [if_neg y]
            obtain ⟨f', rfl⟩ : ∃ f', f = f' + 1 := ⟨f - 1, by omega⟩
            rw [lX8_wordOf_57]
            refine ⟨0, ?_, Or.inl rfl, ⟨fun q => absurd q (by decide), fun q => absurd (q.2 i (by omega)).symm y⟩⟩
            by_cases x : nI (wl w) ≤ nI (i + 1)
            · rw [if_pos x]
            · rw [if_neg x, if_pos rfl]
    exact hl FU 0 (by unfold FU; omega) (Nat.zero_le _) (fun q hq => by omega)
  · rw [if_neg (by rw [nI_eq (by omega) (by omega)]; omega)]
    refine ⟨0, ?_, Or.inl rfl, ⟨fun q => absurd q (by decide), fun q => absurd q.1 hlen⟩⟩
    rw [show FU = 999999 + 1 from rfl, lX8_wordOf_57]
    by_cases x : nI (wl w) ≤ 0
    · rw [if_pos x]
    · rw [if_neg x, if_pos rfl]
theorem wx_8 (ht : TP tp z A A1) (h17 : ∀ j, j < 107 → A1 17 j = mwf 107 j) (hpe : p ≤ e) (hez : e ≤ z) (hlt : ∀ i, p ≤ i → i < e → lt8 (tp i) = true) : ∃ x, sX8_wordOf (nI p) (nI e) I1 J1 A1 B1 = some (nI x) ∧ WX tp p e x := by
  have hz := ht.1
  have hl : ∀ f w, 21 < w + f → w ≤ 21 → (∀ q, q < w → ¬ mt tp p e q) → (∃ x, x < 21 ∧ lX8_wordOf_5 f (nI p) (nI e) (nI (w + 1)) (nI (wo w)) I1 J1 A1 B1 = some (.inl (nI (x + 1))) ∧ mt tp p e x) ∨ (lX8_wordOf_5 f (nI p) (nI e) (nI (w + 1)) (nI (wo w)) I1 J1 A1 B1 = some (.inr ()) ∧ ∀ q, q < 21 → ¬ mt tp p e q) := by
    intro f
    induction f with
    | zero => intro w h1 h2; omega
    | succ f ih =>
      intro w h1 h2 hq
      rw [lX8_wordOf_5]
      by_cases hw : w = 21
      · subst hw
        rw [if_pos (by decide)]
        exact Or.inr ⟨rfl, hq⟩
      · obtain ⟨d1, d2, d3, -, -⟩ := d_1 w (by omega)
        rw [if_neg (by rw [show (107 : Int32) = nI 107 from rfl, nn_le (by decide) (by omega)]; omega), wn_8 h17 (by omega)]
        dsimp only [gv, Option.bind_some]
        obtain ⟨r, r1, r2, r3⟩ := wm_8 (I1 := I1) (J1 := J1) (B1 := B1) (w := w) (x2 := nI e) (x3 := nI (w + 1)) ht h17 (by omega) hpe hez hlt
        rw [r1]
        dsimp only [Option.bind_some]
        rcases r2 with rfl | rfl
        · rw [if_pos rfl, nI_1, nI_1, nI_add, ← Nat.add_assoc, ← d1]
          refine ih (w + 1) (by omega) (by omega) (fun q hq2 => ?_)
          by_cases x : q = w
          · subst x; exact fun m => by cases r3.mpr m
          · exact hq q (by omega)
        · rw [if_neg (by decide)]
          exact Or.inl ⟨w, by omega, rfl, r3.mp rfl⟩
  unfold sX8_wordOf
  rcases hl FU 0 (by unfold FU; omega) (by omega) (fun q hq => by omega) with ⟨x, x1, x2, x3⟩ | ⟨x1, x2⟩
  · have x2 : lX8_wordOf_5 FU (nI p) (nI e) 1 0 I1 J1 A1 B1 = some (.inl (nI (x + 1))) := x2
    exact ⟨x + 1, by rw [x2]; rfl, Or.inl ⟨by omega, by omega, x3⟩⟩
  · have x1 : lX8_wordOf_5 FU (nI p) (nI e) 1 0 I1 J1 A1 B1 = some (.inr ()) := x1
    exact ⟨0, by rw [x1]; rfl, Or.inr ⟨rfl, x2⟩⟩
end X1
