abbrev RelT : Type := (Nat → Int32) → (Nat → Int64) → (Nat → Nat → Int32) → (Nat → Nat → Int64) → (Nat → Option Txt) → (Nat → Option Img) → (Nat → Int32) → (Nat → Int64) → (Nat → Nat → Int32) → (Nat → Nat → Int64) → Prop
def txP (T : Nat → Option Txt) (I : Nat → Int32) (x : Int32) : Option Txt := if x < 0 then none else if I 23 ≤ x then none else if 8 ≤ x then none else T (ix x)
def bcX (T1 T2 : Nat → Option Txt) : Nat → Option Txt := fun j => if j < 8 then T2 j else T1 j
def img0 : Img := (SI0, SA0, fun _ => none)
abbrev PS_stiff (Rel : RelT) : Prop := ∀ x1 x2 : Int32, ∀ (I : Nat → Int32) (J : Nat → Int64) (A : Nat → Nat → Int32) (B : Nat → Nat → Int64) (T : Nat → Option Txt) (M : Nat → Option Img) (I1 : Nat → Int32) (J1 : Nat → Int64) (A1 : Nat → Nat → Int32) (B1 : Nat → Nat → Int64), Rel I J A B T M I1 J1 A1 B1 → ∃ (r : Int32) (I2 : Nat → Int32) (A2 : Nat → Nat → Int32) (I3 : Nat → Int32) (A3 : Nat → Nat → Int32), sX7_stiff x1 x2 I J A B = some (r, I2, A2) ∧ sX8_stiff x1 x2 I1 J1 A1 B1 = some (r, I3, A3) ∧ Rel I2 J A2 B T M I3 J1 A3 B1
abbrev PS_tier (Rel : RelT) : Prop := ∀ x1 x2 x3 : Int32, ∀ (I : Nat → Int32) (J : Nat → Int64) (A : Nat → Nat → Int32) (B : Nat → Nat → Int64) (T : Nat → Option Txt) (M : Nat → Option Img) (I1 : Nat → Int32) (J1 : Nat → Int64) (A1 : Nat → Nat → Int32) (B1 : Nat → Nat → Int64), Rel I J A B T M I1 J1 A1 B1 → ∃ (r : Int32) (I2 : Nat → Int32) (A2 : Nat → Nat → Int32) (I3 : Nat → Int32) (A3 : Nat → Nat → Int32), sX7_tier x1 x2 x3 I J A B = some (r, I2, A2) ∧ sX8_tier x1 x2 x3 I1 J1 A1 B1 = some (r, I3, A3) ∧ Rel I2 J A2 B T M I3 J1 A3 B1
abbrev PS_terms (Rel : RelT) : Prop := ∀ x1 x2 : Int32, ∀ (I : Nat → Int32) (J : Nat → Int64) (A : Nat → Nat → Int32) (B : Nat → Nat → Int64) (T : Nat → Option Txt) (M : Nat → Option Img) (I1 : Nat → Int32) (J1 : Nat → Int64) (A1 : Nat → Nat → Int32) (B1 : Nat → Nat → Int64), Rel I J A B T M I1 J1 A1 B1 → ∃ (r : Int32) (I2 : Nat → Int32) (A2 : Nat → Nat → Int32) (I3 : Nat → Int32) (A3 : Nat → Nat → Int32), sX7_terms x1 x2 I J A B = some (r, I2, A2) ∧ sX8_terms x1 x2 I1 J1 A1 B1 = some (r, I3, A3) ∧ Rel I2 J A2 B T M I3 J1 A3 B1
abbrev PS_wind (Rel : RelT) : Prop := ∀ x1 x2 x3 : Int32, ∀ (I : Nat → Int32) (J : Nat → Int64) (A : Nat → Nat → Int32) (B : Nat → Nat → Int64) (T : Nat → Option Txt) (M : Nat → Option Img) (I1 : Nat → Int32) (J1 : Nat → Int64) (A1 : Nat → Nat → Int32) (B1 : Nat → Nat → Int64), Rel I J A B T M I1 J1 A1 B1 → ∃ (r : Int32) (I2 : Nat → Int32) (A2 : Nat → Nat → Int32) (I3 : Nat → Int32) (A3 : Nat → Nat → Int32), sX7_wind x1 x2 x3 I J A B = some (r, I2, A2) ∧ sX8_wind x1 x2 x3 I1 J1 A1 B1 = some (r, I3, A3) ∧ Rel I2 J A2 B T M I3 J1 A3 B1
abbrev PS_plate (Rel : RelT) : Prop := ∀ x1 x2 : Int32, ∀ (I : Nat → Int32) (J : Nat → Int64) (A : Nat → Nat → Int32) (B : Nat → Nat → Int64) (T : Nat → Option Txt) (M : Nat → Option Img) (I1 : Nat → Int32) (J1 : Nat → Int64) (A1 : Nat → Nat → Int32) (B1 : Nat → Nat → Int64), Rel I J A B T M I1 J1 A1 B1 → ∃ (r : Int32) (I2 : Nat → Int32) (A2 : Nat → Nat → Int32) (I3 : Nat → Int32) (A3 : Nat → Nat → Int32), sX7_plate x1 x2 I J A B = some (r, I2, A2) ∧ sX8_plate x1 x2 I1 J1 A1 B1 = some (r, I3, A3) ∧ Rel I2 J A2 B T M I3 J1 A3 B1
abbrev PS_joint (Rel : RelT) : Prop := ∀ x1 x2 : Int32, ∀ (I : Nat → Int32) (J : Nat → Int64) (A : Nat → Nat → Int32) (B : Nat → Nat → Int64) (T : Nat → Option Txt) (M : Nat → Option Img) (I1 : Nat → Int32) (J1 : Nat → Int64) (A1 : Nat → Nat → Int32) (B1 : Nat → Nat → Int64), Rel I J A B T M I1 J1 A1 B1 → ∃ (r : Int32), sX7_joint x1 x2 I J A B = some r ∧ sX8_joint x1 x2 I1 J1 A1 B1 = some r ∧ Rel I J A B T M I1 J1 A1 B1
abbrev PS_tension (Rel : RelT) : Prop := ∀ x1 x2 x3 : Int32, ∀ (I : Nat → Int32) (J : Nat → Int64) (A : Nat → Nat → Int32) (B : Nat → Nat → Int64) (T : Nat → Option Txt) (M : Nat → Option Img) (I1 : Nat → Int32) (J1 : Nat → Int64) (A1 : Nat → Nat → Int32) (B1 : Nat → Nat → Int64), Rel I J A B T M I1 J1 A1 B1 → ∃ (r : Int64) (I2 : Nat → Int32) (J2 : Nat → Int64) (A2 : Nat → Nat → Int32) (B2 : Nat → Nat → Int64) (J3 : Nat → Int64) (A3 : Nat → Nat → Int32) (B3 : Nat → Nat → Int64), sX7_tension x1 x2 x3 I J A B = some (r, I2, J2, A2, B2) ∧ sX8_tension x1 x2 x3 I1 J1 A1 B1 = some (r, J3, A3, B3) ∧ Rel I2 J2 A2 B2 T M I1 J3 A3 B3
abbrev PS_goes (Rel : RelT) : Prop := ∀ x1 x2 x3 : Int32, ∀ (I : Nat → Int32) (J : Nat → Int64) (A : Nat → Nat → Int32) (B : Nat → Nat → Int64) (T : Nat → Option Txt) (M : Nat → Option Img) (I1 : Nat → Int32) (J1 : Nat → Int64) (A1 : Nat → Nat → Int32) (B1 : Nat → Nat → Int64), Rel I J A B T M I1 J1 A1 B1 → ∃ (r : Int32) (I2 : Nat → Int32) (J2 : Nat → Int64) (A2 : Nat → Nat → Int32) (B2 : Nat → Nat → Int64) (I3 : Nat → Int32) (J3 : Nat → Int64) (A3 : Nat → Nat → Int32) (B3 : Nat → Nat → Int64), sX7_goes x1 x2 x3 I J A B = some (r, I2, J2, A2, B2) ∧ sX8_goes x1 x2 x3 I1 J1 A1 B1 = some (r, I3, J3, A3, B3) ∧ Rel I2 J2 A2 B2 T M I3 J3 A3 B3
abbrev PS_falls (Rel : RelT) : Prop := ∀ x1 x2 : Int32, ∀ (I : Nat → Int32) (J : Nat → Int64) (A : Nat → Nat → Int32) (B : Nat → Nat → Int64) (T : Nat → Option Txt) (M : Nat → Option Img) (I1 : Nat → Int32) (J1 : Nat → Int64) (A1 : Nat → Nat → Int32) (B1 : Nat → Nat → Int64), Rel I J A B T M I1 J1 A1 B1 → ∃ (r : Int32) (I2 : Nat → Int32) (J2 : Nat → Int64) (A2 : Nat → Nat → Int32) (B2 : Nat → Nat → Int64) (I3 : Nat → Int32) (J3 : Nat → Int64) (A3 : Nat → Nat → Int32) (B3 : Nat → Nat → Int64), sX7_falls x1 x2 I J A B = some (r, I2, J2, A2, B2) ∧ sX8_falls x1 x2 I1 J1 A1 B1 = some (r, I3, J3, A3, B3) ∧ Rel I2 J2 A2 B2 T M I3 J3 A3 B3
abbrev PS_feed (Rel : RelT) : Prop := ∀ x1 x2 x3 x4 x5 : Int32, ∀ (I : Nat → Int32) (J : Nat → Int64) (A : Nat → Nat → Int32) (B : Nat → Nat → Int64) (T : Nat → Option Txt) (M : Nat → Option Img) (I1 : Nat → Int32) (J1 : Nat → Int64) (A1 : Nat → Nat → Int32) (B1 : Nat → Nat → Int64), Rel I J A B T M I1 J1 A1 B1 → ∃ (r : Int32) (I2 : Nat → Int32) (A2 : Nat → Nat → Int32) (I3 : Nat → Int32) (A3 : Nat → Nat → Int32), sX7_feed x1 x2 x3 x4 x5 I J A B = some (r, I2, A2) ∧ sX8_feed x1 x2 x3 x4 x5 I1 J1 A1 B1 = some (r, I3, A3) ∧ Rel I2 J A2 B T M I3 J1 A3 B1
abbrev PS_end (Rel : RelT) : Prop := ∀ x1 : Int32, ∀ (I : Nat → Int32) (J : Nat → Int64) (A : Nat → Nat → Int32) (B : Nat → Nat → Int64) (T : Nat → Option Txt) (M : Nat → Option Img) (I1 : Nat → Int32) (J1 : Nat → Int64) (A1 : Nat → Nat → Int32) (B1 : Nat → Nat → Int64), Rel I J A B T M I1 J1 A1 B1 → ∃ (r : Int32) (I2 : Nat → Int32) (I3 : Nat → Int32), sX7_end x1 I J A B = some (r, I2) ∧ sX8_end x1 I1 J1 A1 B1 = some (r, I3) ∧ Rel I2 J A B T M I3 J1 A1 B1
abbrev PS_fault (Rel : RelT) : Prop := ∀ (I : Nat → Int32) (J : Nat → Int64) (A : Nat → Nat → Int32) (B : Nat → Nat → Int64) (T : Nat → Option Txt) (M : Nat → Option Img) (I1 : Nat → Int32) (J1 : Nat → Int64) (A1 : Nat → Nat → Int32) (B1 : Nat → Nat → Int64), Rel I J A B T M I1 J1 A1 B1 → ∃ (r : Int32), sX7_fault I J A B = some r ∧ sX8_fault I1 J1 A1 B1 = some r ∧ Rel I J A B T M I1 J1 A1 B1
abbrev PS_drawing (Rel : RelT) : Prop := ∀ x1 x2 : Int32, ∀ (I : Nat → Int32) (J : Nat → Int64) (A : Nat → Nat → Int32) (B : Nat → Nat → Int64) (T : Nat → Option Txt) (M : Nat → Option Img) (I1 : Nat → Int32) (J1 : Nat → Int64) (A1 : Nat → Nat → Int32) (B1 : Nat → Nat → Int64), Rel I J A B T M I1 J1 A1 B1 → ∃ (r : Int32), sX7_drawing x1 x2 I J A B = some r ∧ sX8_drawing x1 x2 I1 J1 A1 B1 = some r ∧ Rel I J A B T M I1 J1 A1 B1
abbrev PS_saw (Rel : RelT) : Prop := ∀ (I : Nat → Int32) (J : Nat → Int64) (A : Nat → Nat → Int32) (B : Nat → Nat → Int64) (T : Nat → Option Txt) (M : Nat → Option Img) (I1 : Nat → Int32) (J1 : Nat → Int64) (A1 : Nat → Nat → Int32) (B1 : Nat → Nat → Int64), Rel I J A B T M I1 J1 A1 B1 → ∃ (r : Int32) (I2 : Nat → Int32) (J2 : Nat → Int64) (A2 : Nat → Nat → Int32) (B2 : Nat → Nat → Int64) (I3 : Nat → Int32) (J3 : Nat → Int64) (A3 : Nat → Nat → Int32) (B3 : Nat → Nat → Int64), sX7_saw I J A B = some (r, I2, J2, A2, B2) ∧ sX8_saw I1 J1 A1 B1 = some (r, I3, J3, A3, B3) ∧ Rel I2 J2 A2 B2 T M I3 J3 A3 B3
abbrev PS_odds (Rel : RelT) : Prop := ∀ x1 : Int32, ∀ (I : Nat → Int32) (J : Nat → Int64) (A : Nat → Nat → Int32) (B : Nat → Nat → Int64) (T : Nat → Option Txt) (M : Nat → Option Img) (I1 : Nat → Int32) (J1 : Nat → Int64) (A1 : Nat → Nat → Int32) (B1 : Nat → Nat → Int64), Rel I J A B T M I1 J1 A1 B1 → ∃ (r : Int32) (I2 : Nat → Int32) (J2 : Nat → Int64) (A2 : Nat → Nat → Int32) (B2 : Nat → Nat → Int64) (I3 : Nat → Int32) (J3 : Nat → Int64) (A3 : Nat → Nat → Int32) (B3 : Nat → Nat → Int64), sX7_odds x1 I J A B = some (r, I2, J2, A2, B2) ∧ sX8_odds x1 I1 J1 A1 B1 = some (r, I3, J3, A3, B3) ∧ Rel I2 J2 A2 B2 T M I3 J3 A3 B3
abbrev PS_wish (Rel : RelT) : Prop := ∀ x1 : Int32, ∀ (I : Nat → Int32) (J : Nat → Int64) (A : Nat → Nat → Int32) (B : Nat → Nat → Int64) (T : Nat → Option Txt) (M : Nat → Option Img) (I1 : Nat → Int32) (J1 : Nat → Int64) (A1 : Nat → Nat → Int32) (B1 : Nat → Nat → Int64), Rel I J A B T M I1 J1 A1 B1 → ∃ (r : Int32) (I2 : Nat → Int32) (A2 : Nat → Nat → Int32) (I3 : Nat → Int32) (A3 : Nat → Nat → Int32), sX7_wish x1 I J A B = some (r, I2, A2) ∧ sX8_wish x1 I1 J1 A1 B1 = some (r, I3, A3) ∧ Rel I2 J A2 B T M I3 J1 A3 B1
abbrev PS_clear (Rel : RelT) : Prop := ∀ (I : Nat → Int32) (J : Nat → Int64) (A : Nat → Nat → Int32) (B : Nat → Nat → Int64) (T : Nat → Option Txt) (M : Nat → Option Img) (I1 : Nat → Int32) (J1 : Nat → Int64) (A1 : Nat → Nat → Int32) (B1 : Nat → Nat → Int64), Rel I J A B T M I1 J1 A1 B1 → ∃ (r : Int32) (I2 : Nat → Int32) (I3 : Nat → Int32), sX7_clear I J A B = some (r, I2) ∧ sX8_clear I1 J1 A1 B1 = some (r, I3) ∧ Rel I2 J A B T M I3 J1 A1 B1
abbrev PS_best (Rel : RelT) : Prop := ∀ (I : Nat → Int32) (J : Nat → Int64) (A : Nat → Nat → Int32) (B : Nat → Nat → Int64) (T : Nat → Option Txt) (M : Nat → Option Img) (I1 : Nat → Int32) (J1 : Nat → Int64) (A1 : Nat → Nat → Int32) (B1 : Nat → Nat → Int64), Rel I J A B T M I1 J1 A1 B1 → ∃ (r : Int64) (I2 : Nat → Int32) (J2 : Nat → Int64) (A2 : Nat → Nat → Int32) (B2 : Nat → Nat → Int64) (I3 : Nat → Int32) (J3 : Nat → Int64) (A3 : Nat → Nat → Int32) (B3 : Nat → Nat → Int64), sX7_best I J A B = some (r, I2, J2, A2, B2) ∧ sX8_best I1 J1 A1 B1 = some (r, I3, J3, A3, B3) ∧ Rel I2 J2 A2 B2 T M I3 J3 A3 B3
abbrev PS_night (Rel : RelT) : Prop := ∀ x1 : Int32, ∀ (I : Nat → Int32) (J : Nat → Int64) (A : Nat → Nat → Int32) (B : Nat → Nat → Int64) (T : Nat → Option Txt) (M : Nat → Option Img) (I1 : Nat → Int32) (J1 : Nat → Int64) (A1 : Nat → Nat → Int32) (B1 : Nat → Nat → Int64), Rel I J A B T M I1 J1 A1 B1 → ∃ (r : Int32), sX7_night x1 I J A B = some r ∧ sX8_night x1 I1 J1 A1 B1 = some r ∧ Rel I J A B T M I1 J1 A1 B1
abbrev PS_low (Rel : RelT) : Prop := ∀ (I : Nat → Int32) (J : Nat → Int64) (A : Nat → Nat → Int32) (B : Nat → Nat → Int64) (T : Nat → Option Txt) (M : Nat → Option Img) (I1 : Nat → Int32) (J1 : Nat → Int64) (A1 : Nat → Nat → Int32) (B1 : Nat → Nat → Int64), Rel I J A B T M I1 J1 A1 B1 → ∃ (r : Int64) (I2 : Nat → Int32) (J2 : Nat → Int64) (A2 : Nat → Nat → Int32) (B2 : Nat → Nat → Int64) (I3 : Nat → Int32) (J3 : Nat → Int64) (A3 : Nat → Nat → Int32) (B3 : Nat → Nat → Int64), sX7_low I J A B = some (r, I2, J2, A2, B2) ∧ sX8_low I1 J1 A1 B1 = some (r, I3, J3, A3, B3) ∧ Rel I2 J2 A2 B2 T M I3 J3 A3 B3
abbrev PS_enough (Rel : RelT) : Prop := ∀ x1 : Int32, ∀ (I : Nat → Int32) (J : Nat → Int64) (A : Nat → Nat → Int32) (B : Nat → Nat → Int64) (T : Nat → Option Txt) (M : Nat → Option Img) (I1 : Nat → Int32) (J1 : Nat → Int64) (A1 : Nat → Nat → Int32) (B1 : Nat → Nat → Int64), Rel I J A B T M I1 J1 A1 B1 → ∃ (r : Int32) (I2 : Nat → Int32) (J2 : Nat → Int64) (A2 : Nat → Nat → Int32) (B2 : Nat → Nat → Int64) (J3 : Nat → Int64) (A3 : Nat → Nat → Int32) (B3 : Nat → Nat → Int64), sX7_enough x1 I J A B = some (r, I2, J2, A2, B2) ∧ sX8_enough x1 I1 J1 A1 B1 = some (r, J3, A3, B3) ∧ Rel I2 J2 A2 B2 T M I1 J3 A3 B3
abbrev PS_move (Rel : RelT) : Prop := ∀ (I : Nat → Int32) (J : Nat → Int64) (A : Nat → Nat → Int32) (B : Nat → Nat → Int64) (T : Nat → Option Txt) (M : Nat → Option Img) (I1 : Nat → Int32) (J1 : Nat → Int64) (A1 : Nat → Nat → Int32) (B1 : Nat → Nat → Int64), Rel I J A B T M I1 J1 A1 B1 → ∃ (r : Int32) (I2 : Nat → Int32) (J2 : Nat → Int64) (A2 : Nat → Nat → Int32) (B2 : Nat → Nat → Int64) (J3 : Nat → Int64) (A3 : Nat → Nat → Int32) (B3 : Nat → Nat → Int64), sX7_move I J A B = some (r, I2, J2, A2, B2) ∧ sX8_move I1 J1 A1 B1 = some (r, J3, A3, B3) ∧ Rel I2 J2 A2 B2 T M I1 J3 A3 B3
abbrev PS_find (Rel : RelT) : Prop := ∀ x1 x2 x3 : Int32, ∀ (I : Nat → Int32) (J : Nat → Int64) (A : Nat → Nat → Int32) (B : Nat → Nat → Int64) (T : Nat → Option Txt) (M : Nat → Option Img) (I1 : Nat → Int32) (J1 : Nat → Int64) (A1 : Nat → Nat → Int32) (B1 : Nat → Nat → Int64), Rel I J A B T M I1 J1 A1 B1 → ∃ (r : Int32) (I2 : Nat → Int32) (A2 : Nat → Nat → Int32) (I3 : Nat → Int32) (A3 : Nat → Nat → Int32), sX7_find x1 x2 x3 I J A B = some (r, I2, A2) ∧ sX8_find x1 x2 x3 I1 J1 A1 B1 = some (r, I3, A3) ∧ Rel I2 J A2 B T M I3 J1 A3 B1
abbrev PS_tell (Rel : RelT) : Prop := ∀ x1 x2 x3 x4 : Int32, ∀ (I : Nat → Int32) (J : Nat → Int64) (A : Nat → Nat → Int32) (B : Nat → Nat → Int64) (T : Nat → Option Txt) (M : Nat → Option Img) (I1 : Nat → Int32) (J1 : Nat → Int64) (A1 : Nat → Nat → Int32) (B1 : Nat → Nat → Int64), Rel I J A B T M I1 J1 A1 B1 → ∃ (r : Int32) (I2 : Nat → Int32) (A2 : Nat → Nat → Int32) (I3 : Nat → Int32) (A3 : Nat → Nat → Int32), sX7_tell x1 x2 x3 x4 I J A B = some (r, I2, A2) ∧ sX8_tell x1 x2 x3 x4 I1 J1 A1 B1 = some (r, I3, A3) ∧ Rel I2 J A2 B T M I3 J1 A3 B1
abbrev PS_knew (Rel : RelT) : Prop := ∀ x1 x2 : Int32, ∀ (I : Nat → Int32) (J : Nat → Int64) (A : Nat → Nat → Int32) (B : Nat → Nat → Int64) (T : Nat → Option Txt) (M : Nat → Option Img) (I1 : Nat → Int32) (J1 : Nat → Int64) (A1 : Nat → Nat → Int32) (B1 : Nat → Nat → Int64), Rel I J A B T M I1 J1 A1 B1 → ∃ (r : Int32), sX7_knew x1 x2 I J A B = some r ∧ sX8_knew x1 x2 I1 J1 A1 B1 = some r ∧ Rel I J A B T M I1 J1 A1 B1
abbrev PS_owed (Rel : RelT) : Prop := ∀ x1 x2 x3 : Int32, ∀ (I : Nat → Int32) (J : Nat → Int64) (A : Nat → Nat → Int32) (B : Nat → Nat → Int64) (T : Nat → Option Txt) (M : Nat → Option Img) (I1 : Nat → Int32) (J1 : Nat → Int64) (A1 : Nat → Nat → Int32) (B1 : Nat → Nat → Int64), Rel I J A B T M I1 J1 A1 B1 → ∃ (r : Int32), sX7_owed x1 x2 x3 I J A B = some r ∧ sX8_owed x1 x2 x3 I1 J1 A1 B1 = some r ∧ Rel I J A B T M I1 J1 A1 B1
abbrev PS_street (Rel : RelT) : Prop := ∀ x1 x2 x3 : Int32, ∀ (I : Nat → Int32) (J : Nat → Int64) (A : Nat → Nat → Int32) (B : Nat → Nat → Int64) (T : Nat → Option Txt) (M : Nat → Option Img) (I1 : Nat → Int32) (J1 : Nat → Int64) (A1 : Nat → Nat → Int32) (B1 : Nat → Nat → Int64), Rel I J A B T M I1 J1 A1 B1 → ∃ (r : Int32) (I2 : Nat → Int32) (A2 : Nat → Nat → Int32) (I3 : Nat → Int32) (A3 : Nat → Nat → Int32), sX7_street x1 x2 x3 I J A B = some (r, I2, A2) ∧ sX8_street x1 x2 x3 I1 J1 A1 B1 = some (r, I3, A3) ∧ Rel I2 J A2 B T M I3 J1 A3 B1
abbrev PS_under (Rel : RelT) : Prop := ∀ x1 x2 : Int32, ∀ (I : Nat → Int32) (J : Nat → Int64) (A : Nat → Nat → Int32) (B : Nat → Nat → Int64) (T : Nat → Option Txt) (M : Nat → Option Img) (I1 : Nat → Int32) (J1 : Nat → Int64) (A1 : Nat → Nat → Int32) (B1 : Nat → Nat → Int64), Rel I J A B T M I1 J1 A1 B1 → ∃ (r : Int32) (I2 : Nat → Int32) (J2 : Nat → Int64) (A2 : Nat → Nat → Int32) (B2 : Nat → Nat → Int64) (I3 : Nat → Int32) (J3 : Nat → Int64) (A3 : Nat → Nat → Int32) (B3 : Nat → Nat → Int64), sX7_under x1 x2 I J A B = some (r, I2, J2, A2, B2) ∧ sX8_under x1 x2 I1 J1 A1 B1 = some (r, I3, J3, A3, B3) ∧ Rel I2 J2 A2 B2 T M I3 J3 A3 B3
abbrev PS_row (Rel : RelT) : Prop := ∀ (I : Nat → Int32) (J : Nat → Int64) (A : Nat → Nat → Int32) (B : Nat → Nat → Int64) (T : Nat → Option Txt) (M : Nat → Option Img) (I1 : Nat → Int32) (J1 : Nat → Int64) (A1 : Nat → Nat → Int32) (B1 : Nat → Nat → Int64), Rel I J A B T M I1 J1 A1 B1 → ∃ (r : Int32) (I2 : Nat → Int32) (A2 : Nat → Nat → Int32) (I3 : Nat → Int32) (A3 : Nat → Nat → Int32), sX7_row I J A B = some (r, I2, A2) ∧ sX8_row I1 J1 A1 B1 = some (r, I3, A3) ∧ Rel I2 J A2 B T M I3 J1 A3 B1
abbrev PS_call (Rel : RelT) : Prop := ∀ x1 : Int32, ∀ (I : Nat → Int32) (J : Nat → Int64) (A : Nat → Nat → Int32) (B : Nat → Nat → Int64) (T : Nat → Option Txt) (M : Nat → Option Img) (I1 : Nat → Int32) (J1 : Nat → Int64) (A1 : Nat → Nat → Int32) (B1 : Nat → Nat → Int64), Rel I J A B T M I1 J1 A1 B1 → ∃ (r : Int32), sX7_call x1 I J A B = some r ∧ sX8_call x1 I1 J1 A1 B1 = some r ∧ Rel I J A B T M I1 J1 A1 B1
abbrev PS_when (Rel : RelT) : Prop := ∀ (I : Nat → Int32) (J : Nat → Int64) (A : Nat → Nat → Int32) (B : Nat → Nat → Int64) (T : Nat → Option Txt) (M : Nat → Option Img) (I1 : Nat → Int32) (J1 : Nat → Int64) (A1 : Nat → Nat → Int32) (B1 : Nat → Nat → Int64), Rel I J A B T M I1 J1 A1 B1 → ∃ (r : Int32), sX7_when I J A B = some r ∧ sX8_when I1 J1 A1 B1 = some r ∧ Rel I J A B T M I1 J1 A1 B1
abbrev PS_tower (Rel : RelT) : Prop := ∀ x1 x2 x3 x4 x5 : Int32, ∀ (I : Nat → Int32) (J : Nat → Int64) (A : Nat → Nat → Int32) (B : Nat → Nat → Int64) (T : Nat → Option Txt) (M : Nat → Option Img) (I1 : Nat → Int32) (J1 : Nat → Int64) (A1 : Nat → Nat → Int32) (B1 : Nat → Nat → Int64), Rel I J A B T M I1 J1 A1 B1 → ∃ (r : Int32) (I2 : Nat → Int32) (A2 : Nat → Nat → Int32) (I3 : Nat → Int32) (A3 : Nat → Nat → Int32), sX7_tower x1 x2 x3 x4 x5 I J A B = some (r, I2, A2) ∧ sX8_tower x1 x2 x3 x4 x5 I1 J1 A1 B1 = some (r, I3, A3) ∧ Rel I2 J A2 B T M I3 J1 A3 B1
abbrev PS_count (Rel : RelT) : Prop := ∀ x1 : Int32, ∀ (I : Nat → Int32) (J : Nat → Int64) (A : Nat → Nat → Int32) (B : Nat → Nat → Int64) (T : Nat → Option Txt) (M : Nat → Option Img) (I1 : Nat → Int32) (J1 : Nat → Int64) (A1 : Nat → Nat → Int32) (B1 : Nat → Nat → Int64), Rel I J A B T M I1 J1 A1 B1 → ∃ (r : Int32), sX7_count x1 I J A B = some r ∧ sX8_count x1 I1 J1 A1 B1 = some r ∧ Rel I J A B T M I1 J1 A1 B1
abbrev PS_status (Rel : RelT) : Prop := ∀ (I : Nat → Int32) (J : Nat → Int64) (A : Nat → Nat → Int32) (B : Nat → Nat → Int64) (T : Nat → Option Txt) (M : Nat → Option Img) (I1 : Nat → Int32) (J1 : Nat → Int64) (A1 : Nat → Nat → Int32) (B1 : Nat → Nat → Int64), Rel I J A B T M I1 J1 A1 B1 → ∃ (r : Int32), sX7_status I J A B = some r ∧ sX8_status I1 J1 A1 B1 = some r ∧ Rel I J A B T M I1 J1 A1 B1
abbrev PS_need (Rel : RelT) : Prop := ∀ x1 x2 x3 : Int32, ∀ (I : Nat → Int32) (J : Nat → Int64) (A : Nat → Nat → Int32) (B : Nat → Nat → Int64) (T : Nat → Option Txt) (M : Nat → Option Img) (I1 : Nat → Int32) (J1 : Nat → Int64) (A1 : Nat → Nat → Int32) (B1 : Nat → Nat → Int64), Rel I J A B T M I1 J1 A1 B1 → (txP T I x1 = none → ∃ (r : Int32) (I2 : Nat → Int32) (J2 : Nat → Int64) (A2 : Nat → Nat → Int32) (B2 : Nat → Nat → Int64) (I3 : Nat → Int32) (J3 : Nat → Int64) (A3 : Nat → Nat → Int32) (B3 : Nat → Nat → Int64), sX7_needN x1 x2 x3 I J A B = some (r, I2, J2, A2, B2) ∧ sX8_need x1 x2 x3 I1 J1 A1 B1 = some (r, I3, J3, A3, B3) ∧ Rel I2 J2 A2 B2 T M I3 J3 A3 B3) ∧ (∀ t : Txt, txP T I x1 = some t → ∃ (r : Int32) (I2 : Nat → Int32) (J2 : Nat → Int64) (A2 : Nat → Nat → Int32) (B2 : Nat → Nat → Int64) (I3 : Nat → Int32) (J3 : Nat → Int64) (A3 : Nat → Nat → Int32) (B3 : Nat → Nat → Int64), sX7_needS t.1 t.2.1 t.2.2.1 t.2.2.2 x1 x2 x3 I J A B = some (r, I2, J2, A2, B2) ∧ sX8_need x1 x2 x3 I1 J1 A1 B1 = some (r, I3, J3, A3, B3) ∧ Rel I2 J2 A2 B2 T M I3 J3 A3 B3)
abbrev PS_step (Rel : RelT) : Prop := ∀ x1 x2 x3 x4 x5 : Int32, ∀ (I : Nat → Int32) (J : Nat → Int64) (A : Nat → Nat → Int32) (B : Nat → Nat → Int64) (T : Nat → Option Txt) (M : Nat → Option Img) (I1 : Nat → Int32) (J1 : Nat → Int64) (A1 : Nat → Nat → Int32) (B1 : Nat → Nat → Int64), Rel I J A B T M I1 J1 A1 B1 → (txP T I x5 = none → ∃ (r : Int32) (I2 : Nat → Int32) (J2 : Nat → Int64) (A2 : Nat → Nat → Int32) (B2 : Nat → Nat → Int64) (I3 : Nat → Int32) (J3 : Nat → Int64) (A3 : Nat → Nat → Int32) (B3 : Nat → Nat → Int64), sX7_stepN x1 x2 x3 x4 x5 I J A B = some (r, I2, J2, A2, B2) ∧ sX8_step x1 x2 x3 x4 x5 I1 J1 A1 B1 = some (r, I3, J3, A3, B3) ∧ Rel I2 J2 A2 B2 T M I3 J3 A3 B3) ∧ (∀ t : Txt, txP T I x5 = some t → ∃ (r : Int32) (I2 : Nat → Int32) (J2 : Nat → Int64) (A2 : Nat → Nat → Int32) (B2 : Nat → Nat → Int64) (I3 : Nat → Int32) (J3 : Nat → Int64) (A3 : Nat → Nat → Int32) (B3 : Nat → Nat → Int64), sX7_stepS t.1 t.2.1 t.2.2.1 t.2.2.2 x1 x2 x3 x4 x5 I J A B = some (r, I2, J2, A2, B2) ∧ sX8_step x1 x2 x3 x4 x5 I1 J1 A1 B1 = some (r, I3, J3, A3, B3) ∧ Rel I2 J2 A2 B2 T M I3 J3 A3 B3)
abbrev PS_first (Rel : RelT) : Prop := ∀ x1 : Int32, ∀ (I : Nat → Int32) (J : Nat → Int64) (A : Nat → Nat → Int32) (B : Nat → Nat → Int64) (T : Nat → Option Txt) (M : Nat → Option Img) (I1 : Nat → Int32) (J1 : Nat → Int64) (A1 : Nat → Nat → Int32) (B1 : Nat → Nat → Int64), Rel I J A B T M I1 J1 A1 B1 → (txP T I x1 = none → ∃ (r : Int32) (I2 : Nat → Int32) (J2 : Nat → Int64) (A2 : Nat → Nat → Int32) (B2 : Nat → Nat → Int64) (I3 : Nat → Int32) (J3 : Nat → Int64) (A3 : Nat → Nat → Int32) (B3 : Nat → Nat → Int64), sX7_firstN x1 I J A B = some (r, I2, J2, A2, B2) ∧ sX8_first x1 I1 J1 A1 B1 = some (r, I3, J3, A3, B3) ∧ Rel I2 J2 A2 B2 T M I3 J3 A3 B3) ∧ (∀ t : Txt, txP T I x1 = some t → ∃ (r : Int32) (I2 : Nat → Int32) (J2 : Nat → Int64) (A2 : Nat → Nat → Int32) (B2 : Nat → Nat → Int64) (I3 : Nat → Int32) (J3 : Nat → Int64) (A3 : Nat → Nat → Int32) (B3 : Nat → Nat → Int64), sX7_firstS t.1 t.2.1 t.2.2.1 t.2.2.2 x1 I J A B = some (r, I2, J2, A2, B2) ∧ sX8_first x1 I1 J1 A1 B1 = some (r, I3, J3, A3, B3) ∧ Rel I2 J2 A2 B2 T M I3 J3 A3 B3)
abbrev PS_rule (Rel : RelT) : Prop := ∀ (I : Nat → Int32) (J : Nat → Int64) (A : Nat → Nat → Int32) (B : Nat → Nat → Int64) (T : Nat → Option Txt) (M : Nat → Option Img) (I1 : Nat → Int32) (J1 : Nat → Int64) (A1 : Nat → Nat → Int32) (B1 : Nat → Nat → Int64), Rel I J A B T M I1 J1 A1 B1 → ∃ (r kd : Int32) (I2 : Nat → Int32) (A2 : Nat → Nat → Int32) (I3 : Nat → Int32) (A3 : Nat → Nat → Int32), sX7_rule I J A B = some (r, kd, I2, A2) ∧ sX8_rule I1 J1 A1 B1 = some (r, I3, A3) ∧ (¬ kd = 1 → Rel I2 J A2 B T M I3 J1 A3 B1) ∧ (kd = 1 → ∀ fb fc : Nat → Int32, (∀ j, j < ix (I2 88 * 4) → fb j = A2 87 j) → (∀ j, j < ix (I2 90) → fc j = A2 89 j) → Rel I2 J A2 B (va_up T (ix (I2 23 - 1)) (some (ix (I2 88 * 4), ix (I2 90), fb, fc))) M I3 J1 A3 B1)
abbrev PS_image (Rel : RelT) : Prop := ∀ x1 : Int32, ∀ (I : Nat → Int32) (J : Nat → Int64) (A : Nat → Nat → Int32) (B : Nat → Nat → Int64) (T : Nat → Option Txt) (M : Nat → Option Img) (I1 : Nat → Int32) (J1 : Nat → Int64) (A1 : Nat → Nat → Int32) (B1 : Nat → Nat → Int64), Rel I J A B T M I1 J1 A1 B1 → (inB x1 2 = false → ∃ (I3 : Nat → Int32) (A3 : Nat → Nat → Int32), sX8_image x1 I1 J1 A1 B1 = some ((-1), I3, A3) ∧ Rel (upd I 9 (-1)) J A B T M I3 J1 A3 B1) ∧ (inB x1 2 = true → bcOK I = true ∧ ∃ (I3 : Nat → Int32) (A3 : Nat → Nat → Int32), sX8_image x1 I1 J1 A1 B1 = some (0, I3, A3) ∧ Rel (upd I 9 0) J A B T (va_up M (ix x1) (some (bcI ((M (ix x1)).getD img0).1 I, bcA ((M (ix x1)).getD img0).2.1 A I, bcX ((M (ix x1)).getD img0).2.2 T))) I3 J1 A3 B1)
abbrev PS_back (Rel : RelT) : Prop := ∀ x1 : Int32, ∀ (I : Nat → Int32) (J : Nat → Int64) (A : Nat → Nat → Int32) (B : Nat → Nat → Int64) (T : Nat → Option Txt) (M : Nat → Option Img) (I1 : Nat → Int32) (J1 : Nat → Int64) (A1 : Nat → Nat → Int32) (B1 : Nat → Nat → Int64), Rel I J A B T M I1 J1 A1 B1 → (inB x1 2 = false → ∃ (I3 : Nat → Int32) (A3 : Nat → Nat → Int32), sX8_back x1 I1 J1 A1 B1 = some ((-1), I3, A3) ∧ Rel (upd I 9 (-1)) J A B T M I3 J1 A3 B1) ∧ (inB x1 2 = true → M (ix x1) = none → ∃ (I3 : Nat → Int32) (A3 : Nat → Nat → Int32), sX8_back x1 I1 J1 A1 B1 = some ((-2), I3, A3) ∧ Rel (upd I 9 (-2)) J A B T M I3 J1 A3 B1) ∧ (inB x1 2 = true → ∀ i : Img, M (ix x1) = some i → bcOK i.1 = true ∧ ∃ (I3 : Nat → Int32) (A3 : Nat → Nat → Int32), sX8_back x1 I1 J1 A1 B1 = some (0, I3, A3) ∧ Rel (upd (mrgI (bcI I i.1) I) 9 0) J (mrgA (bcA A i.2.1 i.1) A) B (bcX T i.2.2) M I3 J1 A3 B1)
abbrev PURE (Rel : RelT) : Prop := PS_stiff Rel ∧ PS_tier Rel ∧ PS_terms Rel ∧ PS_wind Rel ∧ PS_plate Rel ∧ PS_joint Rel ∧ PS_tension Rel ∧ PS_goes Rel ∧ PS_falls Rel ∧ PS_feed Rel ∧ PS_end Rel ∧ PS_rule Rel ∧ PS_fault Rel ∧ PS_need Rel ∧ PS_step Rel ∧ PS_drawing Rel ∧ PS_saw Rel ∧ PS_odds Rel ∧ PS_wish Rel ∧ PS_clear Rel ∧ PS_best Rel ∧ PS_night Rel ∧ PS_low Rel ∧ PS_enough Rel ∧ PS_move Rel ∧ PS_find Rel ∧ PS_tell Rel ∧ PS_knew Rel ∧ PS_owed Rel ∧ PS_street Rel ∧ PS_under Rel ∧ PS_row Rel ∧ PS_call Rel ∧ PS_when Rel ∧ PS_tower Rel ∧ PS_first Rel ∧ PS_image Rel ∧ PS_back Rel ∧ PS_count Rel ∧ PS_status Rel

abbrev PL (s : State) : Nat → Prop := fun x => s.heap.size ≤ x
def LT (cy : Nat → ClassId) (ts : List (Nat × Nat × Nat × Txt)) (o0 o1 : Option ((Nat → Nat) × (Nat → Option Nat) × (Nat → Int32) × (Nat → Nat → Int32))) : va_W := imW cy o0 ++ (imW cy o1 ++ txW cy ts)
/-- what holds between two calls of the law -/
def LI (Rel : RelT) (D : va_G) (cy : Nat → ClassId) (s : State) (H : Heap) (locs : List Loc) (q z qm : Nat → Nat) : Prop :=
  ∃ (xx : (Nat → Option Nat) × (Nat → Option Nat) × Nat) (ts : List (Nat × Nat × Nat × Txt)) (o0 o1 : Option ((Nat → Nat) × (Nat → Option Nat) × (Nat → Int32) × (Nat → Nat → Int32))) (T : Nat → Option Txt) (M : Nat → Option Img) (I : Nat → Int32) (J : Nat → Int64) (A : Nat → Nat → Int32) (B : Nat → Nat → Int64) (I1 : Nat → Int32) (J1 : Nat → Int64) (A1 : Nat → Nat → Int32) (B1 : Nat → Nat → Int64),
    CI D cy s (PL s) s.heap H locs q z (LT cy ts o0 o1 ++ MW cy (mq qm) I1 J1 A1 B1) xx I J A B ∧ TR ts xx.1 T ∧ IR ts (xx.2.1 0) o0 (M 0) ∧ IR ts (xx.2.1 1) o1 (M 1) ∧ Rel I J A B T M I1 J1 A1 B1
abbrev rml (R : Room) (cells slots : Nat) : Prop := 2048 ≤ R.frames ∧ 84000 ≤ R.locals ∧ cells + 20 ≤ R.cells ∧ slots + 2000 ≤ R.slots
section LD
variable {p : Program} {l : Launch} {e : Env} {s : State} {m : MethodId} {args : Array Value} {below : List Frame} {meth : Method} {c : Code} {H : Heap} {locs : List Loc} {cells slots : Nat} {Q : State → Prop} {pc : Nat} {ls : Array Slot} {rest : List Value} {ret : Option FieldType} {R : Room} {b L i : Nat} {xs : Nat → Int32} {v1 v2 : Value}
/-- the script's word i + k -/
theorem lw_ld (C : Cx p s m args meth c cL_law 4 RL ret) (hX : va_X b L xs s s.heap) (hb : b < s.heap.size) (hS : va_S (PL s) s.heap H locs) (hl : lv_has ls 4 [(3, .int (nI i)), (0, .ref b), (1, v1), (2, v2)]) {k : Int} (kn : Nat) (hk : Int32.ofInt k = nI kn) (hik : i + kn < L) (hL : L ≤ 3072) (d0 : decode cL_law pc = .ok (.aload_n 0, 1)) (d1 : decode cL_law (pc + 1) = .ok (.iload_n 3, 1)) (d2 : decode cL_law (pc + 2) = .ok (.iconst k, 1)) (d3 : decode cL_law (pc + 3) = .ok (.iadd, 1)) (d4 : decode cL_law (pc + 4) = .ok (.iaload, 1))
    (kk : W p l e R s m args below meth c H locs cells slots Q (F0 m (pc + 5) ls (.int (xs (i + kn)) :: rest))) : W p l e R s m args below meth c H locs cells slots Q (F0 m pc ls rest) := by
  refine lv_aload_n C.1 C.2.1 d0 rfl (lv_at hl 1 rfl) ?_
  refine lv_iload_n C.1 C.2.1 d1 rfl (lv_at hl 0 rfl) ?_
  refine lv_iconst (v := nI kn) C.1 C.2.1 d2 hk ?_
  refine lv_iadd C.1 C.2.1 d3 ?_
  rw [nI_add]
  refine va_sld C.1 C.2.1 hX hb (fun h => Nat.lt_irrefl _ (Nat.lt_of_lt_of_le hb h)) hS (vp_in_nI hik (by omega)) d4 ?_
  rw [nI_clamp (by omega)]
  exact kk
end LD
section LOPS
variable {p : Program} {l : Launch} {e : Env} {s : State} {m : MethodId} {args : Array Value} {below : List Frame} {meth : Method} {c : Code} {H : Heap} {locs : List Loc} {cells slots : Nat} {Q : State → Prop} {ls : Array Slot} {ret : Option FieldType} {R : Room} {b L i : Nat} {xs : Nat → Int32}
variable {Rel : RelT} {D : va_G} {cy : Nat → ClassId} {q z qm : Nat → Nat}

theorem lcmp_self (x : Int64) : lg_cmp x x = 0 := by simp [lg_cmp]
theorem lw_stiff (hp : PS_stiff Rel) (C : Cx p s m args meth c cL_law 4 RL ret) (hX : va_X b L xs s s.heap) (hb : b < s.heap.size) (hF : NX (PL s) s s.heap z) (hC : NC s) (hi : i + 6 ≤ L) (hL : L ≤ 3072) (hR : rml R cells slots) (hI : LI Rel D cy s H locs q z qm) (hl : lv_has ls 4 [(3, .int (nI i)), (0, .ref b), (1, .ref (q 99)), (2, .ref (mq qm 46))])
    (kk : ∀ (H : Heap) (locs : List Loc), LI Rel D cy s H locs q z qm → W p l e R s m args below meth c H locs (cells + 20) (slots + 2000) Q (F0 m 1421 ls [])) : W p l e R s m args below meth c H locs cells slots Q (F0 m 208 ls []) := by
  obtain ⟨xx, ts, o0, o1, T, M, I, J, A, B, I1, J1, A1, B1, hI, hT, h0, h1, hr⟩ := hI
  obtain ⟨r, I2, A2, I3, A3, h7, h8, hr2⟩ := hp (xs (i + 1)) (xs (i + 2)) _ _ _ _ _ _ _ _ _ _ hr
  refine lv_aload_n C.1 C.2.1 dL_law_208 rfl (lv_at hl 2 rfl) ?_
  refine lw_ld C hX hb hI.2.2.2.1 hl 1 (by decide) (by omega) hL dL_law_209 dL_law_210 dL_law_211 dL_law_212 dL_law_213 ?_
  refine lw_ld C hX hb hI.2.2.2.1 hl 2 (by decide) (by omega) hL dL_law_214 dL_law_215 dL_law_216 dL_law_217 dL_law_218 ?_
  refine C_callR C hI (kX7_stiff l D cy (PL s) q z _ _ _ _ _ _ _ _ _ _ _ h7) (rv_X7 hI) ml_L_13 im_X7_stiff se_X7_stiff ini_X7 co_X7_stiff hyX7_stiff rfl ⟨Nat.le_trans (by decide) hR.1, Nat.le_trans (by decide) hR.2.1, by have := hR.2.2.1; omega, by have := hR.2.2.2; omega⟩ hl.1 rfl (Nat.le_of_ble_eq_true rfl) dL_law_219 (fun H locs hI => ?_)
  refine lv_aload_n C.1 C.2.1 dL_law_222 rfl (lv_at hl 3 rfl) ?_
  refine lw_ld C hX hb hI.2.2.2.1 hl 1 (by decide) (by omega) hL dL_law_223 dL_law_224 dL_law_225 dL_law_226 dL_law_227 ?_
  refine lw_ld C hX hb hI.2.2.2.1 hl 2 (by decide) (by omega) hL dL_law_228 dL_law_229 dL_law_230 dL_law_231 dL_law_232 ?_
  refine M_callR C hI (kX8_stiff l D cy (mq qm) _ _ _ _ _ _ _ _ _ h8) ml_L_17 im_X8_stiff se_X8_stiff ini_X8 co_X8_stiff hyX8_stiff rfl ⟨Nat.le_trans (by decide) hR.1, Nat.le_trans (by decide) hR.2.1, by have := hR.2.2.1; omega, by have := hR.2.2.2; omega⟩ hl.1 rfl (Nat.le_of_ble_eq_true rfl) dL_law_233 (fun H locs hI => ?_)
  refine lv_icmp_eq (tgt := 1421) C.1 C.2.1 dL_law_236 (by decide) (fun cn => ?_) (fun cn => absurd rfl cn)
  exact W.widen (Nat.le_add_right _ _) (Nat.le_add_right _ _) (kk H locs ⟨xx, ts, o0, o1, T, M, _, _, _, _, _, _, _, _, hI, hT, h0, h1, hr2⟩)
theorem lw_tier (hp : PS_tier Rel) (C : Cx p s m args meth c cL_law 4 RL ret) (hX : va_X b L xs s s.heap) (hb : b < s.heap.size) (hF : NX (PL s) s s.heap z) (hC : NC s) (hi : i + 6 ≤ L) (hL : L ≤ 3072) (hR : rml R cells slots) (hI : LI Rel D cy s H locs q z qm) (hl : lv_has ls 4 [(3, .int (nI i)), (0, .ref b), (1, .ref (q 99)), (2, .ref (mq qm 46))])
    (kk : ∀ (H : Heap) (locs : List Loc), LI Rel D cy s H locs q z qm → W p l e R s m args below meth c H locs (cells + 20) (slots + 2000) Q (F0 m 1421 ls [])) : W p l e R s m args below meth c H locs cells slots Q (F0 m 241 ls []) := by
  obtain ⟨xx, ts, o0, o1, T, M, I, J, A, B, I1, J1, A1, B1, hI, hT, h0, h1, hr⟩ := hI
  obtain ⟨r, I2, A2, I3, A3, h7, h8, hr2⟩ := hp (xs (i + 1)) (xs (i + 2)) (xs (i + 3)) _ _ _ _ _ _ _ _ _ _ hr
  refine lv_aload_n C.1 C.2.1 dL_law_241 rfl (lv_at hl 2 rfl) ?_
  refine lw_ld C hX hb hI.2.2.2.1 hl 1 (by decide) (by omega) hL dL_law_242 dL_law_243 dL_law_244 dL_law_245 dL_law_246 ?_
  refine lw_ld C hX hb hI.2.2.2.1 hl 2 (by decide) (by omega) hL dL_law_247 dL_law_248 dL_law_249 dL_law_250 dL_law_251 ?_
  refine lw_ld C hX hb hI.2.2.2.1 hl 3 (by decide) (by omega) hL dL_law_252 dL_law_253 dL_law_254 dL_law_255 dL_law_256 ?_
  refine C_callR C hI (kX7_tier l D cy (PL s) q z _ _ _ _ _ _ _ _ _ _ _ _ h7) (rv_X7 hI) ml_L_18 im_X7_tier se_X7_tier ini_X7 co_X7_tier hyX7_tier rfl ⟨Nat.le_trans (by decide) hR.1, Nat.le_trans (by decide) hR.2.1, by have := hR.2.2.1; omega, by have := hR.2.2.2; omega⟩ hl.1 rfl (Nat.le_of_ble_eq_true rfl) dL_law_257 (fun H locs hI => ?_)
  refine lv_aload_n C.1 C.2.1 dL_law_260 rfl (lv_at hl 3 rfl) ?_
  refine lw_ld C hX hb hI.2.2.2.1 hl 1 (by decide) (by omega) hL dL_law_261 dL_law_262 dL_law_263 dL_law_264 dL_law_265 ?_
  refine lw_ld C hX hb hI.2.2.2.1 hl 2 (by decide) (by omega) hL dL_law_266 dL_law_267 dL_law_268 dL_law_269 dL_law_270 ?_
  refine lw_ld C hX hb hI.2.2.2.1 hl 3 (by decide) (by omega) hL dL_law_271 dL_law_272 dL_law_273 dL_law_274 dL_law_275 ?_
  refine M_callR C hI (kX8_tier l D cy (mq qm) _ _ _ _ _ _ _ _ _ _ h8) ml_L_22 im_X8_tier se_X8_tier ini_X8 co_X8_tier hyX8_tier rfl ⟨Nat.le_trans (by decide) hR.1, Nat.le_trans (by decide) hR.2.1, by have := hR.2.2.1; omega, by have := hR.2.2.2; omega⟩ hl.1 rfl (Nat.le_of_ble_eq_true rfl) dL_law_276 (fun H locs hI => ?_)
  refine lv_icmp_eq (tgt := 1421) C.1 C.2.1 dL_law_279 (by decide) (fun cn => ?_) (fun cn => absurd rfl cn)
  exact W.widen (Nat.le_add_right _ _) (Nat.le_add_right _ _) (kk H locs ⟨xx, ts, o0, o1, T, M, _, _, _, _, _, _, _, _, hI, hT, h0, h1, hr2⟩)
theorem lw_terms (hp : PS_terms Rel) (C : Cx p s m args meth c cL_law 4 RL ret) (hX : va_X b L xs s s.heap) (hb : b < s.heap.size) (hF : NX (PL s) s s.heap z) (hC : NC s) (hi : i + 6 ≤ L) (hL : L ≤ 3072) (hR : rml R cells slots) (hI : LI Rel D cy s H locs q z qm) (hl : lv_has ls 4 [(3, .int (nI i)), (0, .ref b), (1, .ref (q 99)), (2, .ref (mq qm 46))])
    (kk : ∀ (H : Heap) (locs : List Loc), LI Rel D cy s H locs q z qm → W p l e R s m args below meth c H locs (cells + 20) (slots + 2000) Q (F0 m 1421 ls [])) : W p l e R s m args below meth c H locs cells slots Q (F0 m 284 ls []) := by
  obtain ⟨xx, ts, o0, o1, T, M, I, J, A, B, I1, J1, A1, B1, hI, hT, h0, h1, hr⟩ := hI
  obtain ⟨r, I2, A2, I3, A3, h7, h8, hr2⟩ := hp (xs (i + 1)) (xs (i + 2)) _ _ _ _ _ _ _ _ _ _ hr
  refine lv_aload_n C.1 C.2.1 dL_law_284 rfl (lv_at hl 2 rfl) ?_
  refine lw_ld C hX hb hI.2.2.2.1 hl 1 (by decide) (by omega) hL dL_law_285 dL_law_286 dL_law_287 dL_law_288 dL_law_289 ?_
  refine lw_ld C hX hb hI.2.2.2.1 hl 2 (by decide) (by omega) hL dL_law_290 dL_law_291 dL_law_292 dL_law_293 dL_law_294 ?_
  refine C_callR C hI (kX7_terms l D cy (PL s) q z _ _ _ _ _ _ _ _ _ _ _ h7) (rv_X7 hI) ml_L_23 im_X7_terms se_X7_terms ini_X7 co_X7_terms hyX7_terms rfl ⟨Nat.le_trans (by decide) hR.1, Nat.le_trans (by decide) hR.2.1, by have := hR.2.2.1; omega, by have := hR.2.2.2; omega⟩ hl.1 rfl (Nat.le_of_ble_eq_true rfl) dL_law_295 (fun H locs hI => ?_)
  refine lv_aload_n C.1 C.2.1 dL_law_298 rfl (lv_at hl 3 rfl) ?_
  refine lw_ld C hX hb hI.2.2.2.1 hl 1 (by decide) (by omega) hL dL_law_299 dL_law_300 dL_law_301 dL_law_302 dL_law_303 ?_
  refine lw_ld C hX hb hI.2.2.2.1 hl 2 (by decide) (by omega) hL dL_law_304 dL_law_305 dL_law_306 dL_law_307 dL_law_308 ?_
  refine M_callR C hI (kX8_terms l D cy (mq qm) _ _ _ _ _ _ _ _ _ h8) ml_L_26 im_X8_terms se_X8_terms ini_X8 co_X8_terms hyX8_terms rfl ⟨Nat.le_trans (by decide) hR.1, Nat.le_trans (by decide) hR.2.1, by have := hR.2.2.1; omega, by have := hR.2.2.2; omega⟩ hl.1 rfl (Nat.le_of_ble_eq_true rfl) dL_law_309 (fun H locs hI => ?_)
  refine lv_icmp_eq (tgt := 1421) C.1 C.2.1 dL_law_312 (by decide) (fun cn => ?_) (fun cn => absurd rfl cn)
  exact W.widen (Nat.le_add_right _ _) (Nat.le_add_right _ _) (kk H locs ⟨xx, ts, o0, o1, T, M, _, _, _, _, _, _, _, _, hI, hT, h0, h1, hr2⟩)
theorem lw_wind (hp : PS_wind Rel) (C : Cx p s m args meth c cL_law 4 RL ret) (hX : va_X b L xs s s.heap) (hb : b < s.heap.size) (hF : NX (PL s) s s.heap z) (hC : NC s) (hi : i + 6 ≤ L) (hL : L ≤ 3072) (hR : rml R cells slots) (hI : LI Rel D cy s H locs q z qm) (hl : lv_has ls 4 [(3, .int (nI i)), (0, .ref b), (1, .ref (q 99)), (2, .ref (mq qm 46))])
    (kk : ∀ (H : Heap) (locs : List Loc), LI Rel D cy s H locs q z qm → W p l e R s m args below meth c H locs (cells + 20) (slots + 2000) Q (F0 m 1421 ls [])) : W p l e R s m args below meth c H locs cells slots Q (F0 m 317 ls []) := by
  obtain ⟨xx, ts, o0, o1, T, M, I, J, A, B, I1, J1, A1, B1, hI, hT, h0, h1, hr⟩ := hI
  obtain ⟨r, I2, A2, I3, A3, h7, h8, hr2⟩ := hp (xs (i + 1)) (xs (i + 2)) (xs (i + 3)) _ _ _ _ _ _ _ _ _ _ hr
  refine lv_aload_n C.1 C.2.1 dL_law_317 rfl (lv_at hl 2 rfl) ?_
  refine lw_ld C hX hb hI.2.2.2.1 hl 1 (by decide) (by omega) hL dL_law_318 dL_law_319 dL_law_320 dL_law_321 dL_law_322 ?_
  refine lw_ld C hX hb hI.2.2.2.1 hl 2 (by decide) (by omega) hL dL_law_323 dL_law_324 dL_law_325 dL_law_326 dL_law_327 ?_
  refine lw_ld C hX hb hI.2.2.2.1 hl 3 (by decide) (by omega) hL dL_law_328 dL_law_329 dL_law_330 dL_law_331 dL_law_332 ?_
  refine C_callR C hI (kX7_wind l D cy (PL s) q z _ _ _ _ _ _ _ _ _ _ _ _ h7) (rv_X7 hI) ml_L_27 im_X7_wind se_X7_wind ini_X7 co_X7_wind hyX7_wind rfl ⟨Nat.le_trans (by decide) hR.1, Nat.le_trans (by decide) hR.2.1, by have := hR.2.2.1; omega, by have := hR.2.2.2; omega⟩ hl.1 rfl (Nat.le_of_ble_eq_true rfl) dL_law_333 (fun H locs hI => ?_)
  refine lv_aload_n C.1 C.2.1 dL_law_336 rfl (lv_at hl 3 rfl) ?_
  refine lw_ld C hX hb hI.2.2.2.1 hl 1 (by decide) (by omega) hL dL_law_337 dL_law_338 dL_law_339 dL_law_340 dL_law_341 ?_
  refine lw_ld C hX hb hI.2.2.2.1 hl 2 (by decide) (by omega) hL dL_law_342 dL_law_343 dL_law_344 dL_law_345 dL_law_346 ?_
  refine lw_ld C hX hb hI.2.2.2.1 hl 3 (by decide) (by omega) hL dL_law_347 dL_law_348 dL_law_349 dL_law_350 dL_law_351 ?_
  refine M_callR C hI (kX8_wind l D cy (mq qm) _ _ _ _ _ _ _ _ _ _ h8) ml_L_30 im_X8_wind se_X8_wind ini_X8 co_X8_wind hyX8_wind rfl ⟨Nat.le_trans (by decide) hR.1, Nat.le_trans (by decide) hR.2.1, by have := hR.2.2.1; omega, by have := hR.2.2.2; omega⟩ hl.1 rfl (Nat.le_of_ble_eq_true rfl) dL_law_352 (fun H locs hI => ?_)
  refine lv_icmp_eq (tgt := 1421) C.1 C.2.1 dL_law_355 (by decide) (fun cn => ?_) (fun cn => absurd rfl cn)
  exact W.widen (Nat.le_add_right _ _) (Nat.le_add_right _ _) (kk H locs ⟨xx, ts, o0, o1, T, M, _, _, _, _, _, _, _, _, hI, hT, h0, h1, hr2⟩)
theorem lw_plate (hp : PS_plate Rel) (C : Cx p s m args meth c cL_law 4 RL ret) (hX : va_X b L xs s s.heap) (hb : b < s.heap.size) (hF : NX (PL s) s s.heap z) (hC : NC s) (hi : i + 6 ≤ L) (hL : L ≤ 3072) (hR : rml R cells slots) (hI : LI Rel D cy s H locs q z qm) (hl : lv_has ls 4 [(3, .int (nI i)), (0, .ref b), (1, .ref (q 99)), (2, .ref (mq qm 46))])
    (kk : ∀ (H : Heap) (locs : List Loc), LI Rel D cy s H locs q z qm → W p l e R s m args below meth c H locs (cells + 20) (slots + 2000) Q (F0 m 1421 ls [])) : W p l e R s m args below meth c H locs cells slots Q (F0 m 360 ls []) := by
  obtain ⟨xx, ts, o0, o1, T, M, I, J, A, B, I1, J1, A1, B1, hI, hT, h0, h1, hr⟩ := hI
  obtain ⟨r, I2, A2, I3, A3, h7, h8, hr2⟩ := hp (xs (i + 1)) (xs (i + 2)) _ _ _ _ _ _ _ _ _ _ hr
  refine lv_aload_n C.1 C.2.1 dL_law_360 rfl (lv_at hl 2 rfl) ?_
  refine lw_ld C hX hb hI.2.2.2.1 hl 1 (by decide) (by omega) hL dL_law_361 dL_law_362 dL_law_363 dL_law_364 dL_law_365 ?_
  refine lw_ld C hX hb hI.2.2.2.1 hl 2 (by decide) (by omega) hL dL_law_366 dL_law_367 dL_law_368 dL_law_369 dL_law_370 ?_
  refine C_callR C hI (kX7_plate l D cy (PL s) q z _ _ _ _ _ _ _ _ _ _ _ h7) (rv_X7 hI) ml_L_31 im_X7_plate se_X7_plate ini_X7 co_X7_plate hyX7_plate rfl ⟨Nat.le_trans (by decide) hR.1, Nat.le_trans (by decide) hR.2.1, by have := hR.2.2.1; omega, by have := hR.2.2.2; omega⟩ hl.1 rfl (Nat.le_of_ble_eq_true rfl) dL_law_371 (fun H locs hI => ?_)
  refine lv_aload_n C.1 C.2.1 dL_law_374 rfl (lv_at hl 3 rfl) ?_
  refine lw_ld C hX hb hI.2.2.2.1 hl 1 (by decide) (by omega) hL dL_law_375 dL_law_376 dL_law_377 dL_law_378 dL_law_379 ?_
  refine lw_ld C hX hb hI.2.2.2.1 hl 2 (by decide) (by omega) hL dL_law_380 dL_law_381 dL_law_382 dL_law_383 dL_law_384 ?_
  refine M_callR C hI (kX8_plate l D cy (mq qm) _ _ _ _ _ _ _ _ _ h8) ml_L_34 im_X8_plate se_X8_plate ini_X8 co_X8_plate hyX8_plate rfl ⟨Nat.le_trans (by decide) hR.1, Nat.le_trans (by decide) hR.2.1, by have := hR.2.2.1; omega, by have := hR.2.2.2; omega⟩ hl.1 rfl (Nat.le_of_ble_eq_true rfl) dL_law_385 (fun H locs hI => ?_)
  refine lv_icmp_eq (tgt := 1421) C.1 C.2.1 dL_law_388 (by decide) (fun cn => ?_) (fun cn => absurd rfl cn)
  exact W.widen (Nat.le_add_right _ _) (Nat.le_add_right _ _) (kk H locs ⟨xx, ts, o0, o1, T, M, _, _, _, _, _, _, _, _, hI, hT, h0, h1, hr2⟩)
theorem lw_joint (hp : PS_joint Rel) (C : Cx p s m args meth c cL_law 4 RL ret) (hX : va_X b L xs s s.heap) (hb : b < s.heap.size) (hF : NX (PL s) s s.heap z) (hC : NC s) (hi : i + 6 ≤ L) (hL : L ≤ 3072) (hR : rml R cells slots) (hI : LI Rel D cy s H locs q z qm) (hl : lv_has ls 4 [(3, .int (nI i)), (0, .ref b), (1, .ref (q 99)), (2, .ref (mq qm 46))])
    (kk : ∀ (H : Heap) (locs : List Loc), LI Rel D cy s H locs q z qm → W p l e R s m args below meth c H locs (cells + 20) (slots + 2000) Q (F0 m 1421 ls [])) : W p l e R s m args below meth c H locs cells slots Q (F0 m 393 ls []) := by
  obtain ⟨xx, ts, o0, o1, T, M, I, J, A, B, I1, J1, A1, B1, hI, hT, h0, h1, hr⟩ := hI
  obtain ⟨r, h7, h8, hr2⟩ := hp (xs (i + 1)) (xs (i + 2)) _ _ _ _ _ _ _ _ _ _ hr
  refine lv_aload_n C.1 C.2.1 dL_law_393 rfl (lv_at hl 2 rfl) ?_
  refine lw_ld C hX hb hI.2.2.2.1 hl 1 (by decide) (by omega) hL dL_law_394 dL_law_395 dL_law_396 dL_law_397 dL_law_398 ?_
  refine lw_ld C hX hb hI.2.2.2.1 hl 2 (by decide) (by omega) hL dL_law_399 dL_law_400 dL_law_401 dL_law_402 dL_law_403 ?_
  refine C_callR C hI (kX7_joint l D cy (PL s) q z _ _ _ _ _ _ _ _ _ h7) (rv_X7 hI) ml_L_35 im_X7_joint se_X7_joint ini_X7 co_X7_joint hyX7_joint rfl ⟨Nat.le_trans (by decide) hR.1, Nat.le_trans (by decide) hR.2.1, by have := hR.2.2.1; omega, by have := hR.2.2.2; omega⟩ hl.1 rfl (Nat.le_of_ble_eq_true rfl) dL_law_404 (fun H locs hI => ?_)
  refine lv_aload_n C.1 C.2.1 dL_law_407 rfl (lv_at hl 3 rfl) ?_
  refine lw_ld C hX hb hI.2.2.2.1 hl 1 (by decide) (by omega) hL dL_law_408 dL_law_409 dL_law_410 dL_law_411 dL_law_412 ?_
  refine lw_ld C hX hb hI.2.2.2.1 hl 2 (by decide) (by omega) hL dL_law_413 dL_law_414 dL_law_415 dL_law_416 dL_law_417 ?_
  refine M_callR C hI (kX8_joint l D cy (mq qm) _ _ _ _ _ _ _ h8) ml_L_38 im_X8_joint se_X8_joint ini_X8 co_X8_joint hyX8_joint rfl ⟨Nat.le_trans (by decide) hR.1, Nat.le_trans (by decide) hR.2.1, by have := hR.2.2.1; omega, by have := hR.2.2.2; omega⟩ hl.1 rfl (Nat.le_of_ble_eq_true rfl) dL_law_418 (fun H locs hI => ?_)
  refine lv_icmp_eq (tgt := 1421) C.1 C.2.1 dL_law_421 (by decide) (fun cn => ?_) (fun cn => absurd rfl cn)
  exact W.widen (Nat.le_add_right _ _) (Nat.le_add_right _ _) (kk H locs ⟨xx, ts, o0, o1, T, M, _, _, _, _, _, _, _, _, hI, hT, h0, h1, hr2⟩)
theorem lw_tension (hp : PS_tension Rel) (C : Cx p s m args meth c cL_law 4 RL ret) (hX : va_X b L xs s s.heap) (hb : b < s.heap.size) (hF : NX (PL s) s s.heap z) (hC : NC s) (hi : i + 6 ≤ L) (hL : L ≤ 3072) (hR : rml R cells slots) (hI : LI Rel D cy s H locs q z qm) (hl : lv_has ls 4 [(3, .int (nI i)), (0, .ref b), (1, .ref (q 99)), (2, .ref (mq qm 46))])
    (kk : ∀ (H : Heap) (locs : List Loc), LI Rel D cy s H locs q z qm → W p l e R s m args below meth c H locs (cells + 20) (slots + 2000) Q (F0 m 1421 ls [])) : W p l e R s m args below meth c H locs cells slots Q (F0 m 426 ls []) := by
  obtain ⟨xx, ts, o0, o1, T, M, I, J, A, B, I1, J1, A1, B1, hI, hT, h0, h1, hr⟩ := hI
  obtain ⟨r, I2, J2, A2, B2, J3, A3, B3, h7, h8, hr2⟩ := hp (xs (i + 1)) (xs (i + 2)) (xs (i + 3)) _ _ _ _ _ _ _ _ _ _ hr
  refine lv_aload_n C.1 C.2.1 dL_law_426 rfl (lv_at hl 2 rfl) ?_
  refine lw_ld C hX hb hI.2.2.2.1 hl 1 (by decide) (by omega) hL dL_law_427 dL_law_428 dL_law_429 dL_law_430 dL_law_431 ?_
  refine lw_ld C hX hb hI.2.2.2.1 hl 2 (by decide) (by omega) hL dL_law_432 dL_law_433 dL_law_434 dL_law_435 dL_law_436 ?_
  refine lw_ld C hX hb hI.2.2.2.1 hl 3 (by decide) (by omega) hL dL_law_437 dL_law_438 dL_law_439 dL_law_440 dL_law_441 ?_
  refine C_callR C hI (kX7_tension l D cy (PL s) q z _ _ _ _ _ _ _ _ _ _ _ _ _ _ h7) (rv_X7 hI) ml_L_39 im_X7_tension se_X7_tension ini_X7 co_X7_tension hyX7_tension rfl ⟨Nat.le_trans (by decide) hR.1, Nat.le_trans (by decide) hR.2.1, by have := hR.2.2.1; omega, by have := hR.2.2.2; omega⟩ hl.1 rfl (Nat.le_of_ble_eq_true rfl) dL_law_442 (fun H locs hI => ?_)
  refine lv_aload_n C.1 C.2.1 dL_law_445 rfl (lv_at hl 3 rfl) ?_
  refine lw_ld C hX hb hI.2.2.2.1 hl 1 (by decide) (by omega) hL dL_law_446 dL_law_447 dL_law_448 dL_law_449 dL_law_450 ?_
  refine lw_ld C hX hb hI.2.2.2.1 hl 2 (by decide) (by omega) hL dL_law_451 dL_law_452 dL_law_453 dL_law_454 dL_law_455 ?_
  refine lw_ld C hX hb hI.2.2.2.1 hl 3 (by decide) (by omega) hL dL_law_456 dL_law_457 dL_law_458 dL_law_459 dL_law_460 ?_
  refine M_callR C hI (kX8_tension l D cy (mq qm) _ _ _ _ _ _ _ _ _ _ _ h8) ml_L_43 im_X8_tension se_X8_tension ini_X8 co_X8_tension hyX8_tension rfl ⟨Nat.le_trans (by decide) hR.1, Nat.le_trans (by decide) hR.2.1, by have := hR.2.2.1; omega, by have := hR.2.2.2; omega⟩ hl.1 rfl (Nat.le_of_ble_eq_true rfl) dL_law_461 (fun H locs hI => ?_)
  refine W.lcmp C.1 C.2.1 dL_law_464 ?_
  refine lv_if_eq (tgt := 1421) C.1 C.2.1 dL_law_465 (by decide) (fun cn => ?_) (fun cn => absurd (lcmp_self _) cn)
  exact W.widen (Nat.le_add_right _ _) (Nat.le_add_right _ _) (kk H locs ⟨xx, ts, o0, o1, T, M, _, _, _, _, _, _, _, _, hI, hT, h0, h1, hr2⟩)
theorem lw_goes (hp : PS_goes Rel) (C : Cx p s m args meth c cL_law 4 RL ret) (hX : va_X b L xs s s.heap) (hb : b < s.heap.size) (hF : NX (PL s) s s.heap z) (hC : NC s) (hi : i + 6 ≤ L) (hL : L ≤ 3072) (hR : rml R cells slots) (hI : LI Rel D cy s H locs q z qm) (hl : lv_has ls 4 [(3, .int (nI i)), (0, .ref b), (1, .ref (q 99)), (2, .ref (mq qm 46))])
    (kk : ∀ (H : Heap) (locs : List Loc), LI Rel D cy s H locs q z qm → W p l e R s m args below meth c H locs (cells + 20) (slots + 2000) Q (F0 m 1421 ls [])) : W p l e R s m args below meth c H locs cells slots Q (F0 m 470 ls []) := by
  obtain ⟨xx, ts, o0, o1, T, M, I, J, A, B, I1, J1, A1, B1, hI, hT, h0, h1, hr⟩ := hI
  obtain ⟨r, I2, J2, A2, B2, I3, J3, A3, B3, h7, h8, hr2⟩ := hp (xs (i + 1)) (xs (i + 2)) (xs (i + 3)) _ _ _ _ _ _ _ _ _ _ hr
  refine lv_aload_n C.1 C.2.1 dL_law_470 rfl (lv_at hl 2 rfl) ?_
  refine lw_ld C hX hb hI.2.2.2.1 hl 1 (by decide) (by omega) hL dL_law_471 dL_law_472 dL_law_473 dL_law_474 dL_law_475 ?_
  refine lw_ld C hX hb hI.2.2.2.1 hl 2 (by decide) (by omega) hL dL_law_476 dL_law_477 dL_law_478 dL_law_479 dL_law_480 ?_
  refine lw_ld C hX hb hI.2.2.2.1 hl 3 (by decide) (by omega) hL dL_law_481 dL_law_482 dL_law_483 dL_law_484 dL_law_485 ?_
  refine C_callR C hI (kX7_goes l D cy (PL s) q z _ _ _ _ _ _ _ _ _ _ _ _ _ _ h7) (rv_X7 hI) ml_L_44 im_X7_goes se_X7_goes ini_X7 co_X7_goes hyX7_goes rfl ⟨Nat.le_trans (by decide) hR.1, Nat.le_trans (by decide) hR.2.1, by have := hR.2.2.1; omega, by have := hR.2.2.2; omega⟩ hl.1 rfl (Nat.le_of_ble_eq_true rfl) dL_law_486 (fun H locs hI => ?_)
  refine lv_aload_n C.1 C.2.1 dL_law_489 rfl (lv_at hl 3 rfl) ?_
  refine lw_ld C hX hb hI.2.2.2.1 hl 1 (by decide) (by omega) hL dL_law_490 dL_law_491 dL_law_492 dL_law_493 dL_law_494 ?_
  refine lw_ld C hX hb hI.2.2.2.1 hl 2 (by decide) (by omega) hL dL_law_495 dL_law_496 dL_law_497 dL_law_498 dL_law_499 ?_
  refine lw_ld C hX hb hI.2.2.2.1 hl 3 (by decide) (by omega) hL dL_law_500 dL_law_501 dL_law_502 dL_law_503 dL_law_504 ?_
  refine M_callR C hI (kX8_goes l D cy (mq qm) _ _ _ _ _ _ _ _ _ _ _ _ h8) ml_L_47 im_X8_goes se_X8_goes ini_X8 co_X8_goes hyX8_goes rfl ⟨Nat.le_trans (by decide) hR.1, Nat.le_trans (by decide) hR.2.1, by have := hR.2.2.1; omega, by have := hR.2.2.2; omega⟩ hl.1 rfl (Nat.le_of_ble_eq_true rfl) dL_law_505 (fun H locs hI => ?_)
  refine lv_icmp_eq (tgt := 1421) C.1 C.2.1 dL_law_508 (by decide) (fun cn => ?_) (fun cn => absurd rfl cn)
  exact W.widen (Nat.le_add_right _ _) (Nat.le_add_right _ _) (kk H locs ⟨xx, ts, o0, o1, T, M, _, _, _, _, _, _, _, _, hI, hT, h0, h1, hr2⟩)
theorem lw_falls (hp : PS_falls Rel) (C : Cx p s m args meth c cL_law 4 RL ret) (hX : va_X b L xs s s.heap) (hb : b < s.heap.size) (hF : NX (PL s) s s.heap z) (hC : NC s) (hi : i + 6 ≤ L) (hL : L ≤ 3072) (hR : rml R cells slots) (hI : LI Rel D cy s H locs q z qm) (hl : lv_has ls 4 [(3, .int (nI i)), (0, .ref b), (1, .ref (q 99)), (2, .ref (mq qm 46))])
    (kk : ∀ (H : Heap) (locs : List Loc), LI Rel D cy s H locs q z qm → W p l e R s m args below meth c H locs (cells + 20) (slots + 2000) Q (F0 m 1421 ls [])) : W p l e R s m args below meth c H locs cells slots Q (F0 m 513 ls []) := by
  obtain ⟨xx, ts, o0, o1, T, M, I, J, A, B, I1, J1, A1, B1, hI, hT, h0, h1, hr⟩ := hI
  obtain ⟨r, I2, J2, A2, B2, I3, J3, A3, B3, h7, h8, hr2⟩ := hp (xs (i + 1)) (xs (i + 2)) _ _ _ _ _ _ _ _ _ _ hr
  refine lv_aload_n C.1 C.2.1 dL_law_513 rfl (lv_at hl 2 rfl) ?_
  refine lw_ld C hX hb hI.2.2.2.1 hl 1 (by decide) (by omega) hL dL_law_514 dL_law_515 dL_law_516 dL_law_517 dL_law_518 ?_
  refine lw_ld C hX hb hI.2.2.2.1 hl 2 (by decide) (by omega) hL dL_law_519 dL_law_520 dL_law_521 dL_law_522 dL_law_523 ?_
  refine C_callR C hI (kX7_falls l D cy (PL s) q z _ _ _ _ _ _ _ _ _ _ _ _ _ h7) (rv_X7 hI) ml_L_48 im_X7_falls se_X7_falls ini_X7 co_X7_falls hyX7_falls rfl ⟨Nat.le_trans (by decide) hR.1, Nat.le_trans (by decide) hR.2.1, by have := hR.2.2.1; omega, by have := hR.2.2.2; omega⟩ hl.1 rfl (Nat.le_of_ble_eq_true rfl) dL_law_524 (fun H locs hI => ?_)
  refine lv_aload_n C.1 C.2.1 dL_law_527 rfl (lv_at hl 3 rfl) ?_
  refine lw_ld C hX hb hI.2.2.2.1 hl 1 (by decide) (by omega) hL dL_law_528 dL_law_529 dL_law_530 dL_law_531 dL_law_532 ?_
  refine lw_ld C hX hb hI.2.2.2.1 hl 2 (by decide) (by omega) hL dL_law_533 dL_law_534 dL_law_535 dL_law_536 dL_law_537 ?_
  refine M_callR C hI (kX8_falls l D cy (mq qm) _ _ _ _ _ _ _ _ _ _ _ h8) ml_L_51 im_X8_falls se_X8_falls ini_X8 co_X8_falls hyX8_falls rfl ⟨Nat.le_trans (by decide) hR.1, Nat.le_trans (by decide) hR.2.1, by have := hR.2.2.1; omega, by have := hR.2.2.2; omega⟩ hl.1 rfl (Nat.le_of_ble_eq_true rfl) dL_law_538 (fun H locs hI => ?_)
  refine lv_icmp_eq (tgt := 1421) C.1 C.2.1 dL_law_541 (by decide) (fun cn => ?_) (fun cn => absurd rfl cn)
  exact W.widen (Nat.le_add_right _ _) (Nat.le_add_right _ _) (kk H locs ⟨xx, ts, o0, o1, T, M, _, _, _, _, _, _, _, _, hI, hT, h0, h1, hr2⟩)
theorem lw_feed (hp : PS_feed Rel) (C : Cx p s m args meth c cL_law 4 RL ret) (hX : va_X b L xs s s.heap) (hb : b < s.heap.size) (hF : NX (PL s) s s.heap z) (hC : NC s) (hi : i + 6 ≤ L) (hL : L ≤ 3072) (hR : rml R cells slots) (hI : LI Rel D cy s H locs q z qm) (hl : lv_has ls 4 [(3, .int (nI i)), (0, .ref b), (1, .ref (q 99)), (2, .ref (mq qm 46))])
    (kk : ∀ (H : Heap) (locs : List Loc), LI Rel D cy s H locs q z qm → W p l e R s m args below meth c H locs (cells + 20) (slots + 2000) Q (F0 m 1421 ls [])) : W p l e R s m args below meth c H locs cells slots Q (F0 m 546 ls []) := by
  obtain ⟨xx, ts, o0, o1, T, M, I, J, A, B, I1, J1, A1, B1, hI, hT, h0, h1, hr⟩ := hI
  obtain ⟨r, I2, A2, I3, A3, h7, h8, hr2⟩ := hp (xs (i + 1)) (xs (i + 2)) (xs (i + 3)) (xs (i + 4)) (xs (i + 5)) _ _ _ _ _ _ _ _ _ _ hr
  refine lv_aload_n C.1 C.2.1 dL_law_546 rfl (lv_at hl 2 rfl) ?_
  refine lw_ld C hX hb hI.2.2.2.1 hl 1 (by decide) (by omega) hL dL_law_547 dL_law_548 dL_law_549 dL_law_550 dL_law_551 ?_
  refine lw_ld C hX hb hI.2.2.2.1 hl 2 (by decide) (by omega) hL dL_law_552 dL_law_553 dL_law_554 dL_law_555 dL_law_556 ?_
  refine lw_ld C hX hb hI.2.2.2.1 hl 3 (by decide) (by omega) hL dL_law_557 dL_law_558 dL_law_559 dL_law_560 dL_law_561 ?_
  refine lw_ld C hX hb hI.2.2.2.1 hl 4 (by decide) (by omega) hL dL_law_562 dL_law_563 dL_law_564 dL_law_565 dL_law_566 ?_
  refine lw_ld C hX hb hI.2.2.2.1 hl 5 (by decide) (by omega) hL dL_law_567 dL_law_568 dL_law_569 dL_law_570 dL_law_571 ?_
  refine C_callR C hI (kX7_feed l D cy (PL s) q z _ _ _ _ _ _ _ _ _ _ _ _ _ _ h7) (rv_X7 hI) ml_L_52 im_X7_feed se_X7_feed ini_X7 co_X7_feed hyX7_feed rfl ⟨Nat.le_trans (by decide) hR.1, Nat.le_trans (by decide) hR.2.1, by have := hR.2.2.1; omega, by have := hR.2.2.2; omega⟩ hl.1 rfl (Nat.le_of_ble_eq_true rfl) dL_law_572 (fun H locs hI => ?_)
  refine lv_aload_n C.1 C.2.1 dL_law_575 rfl (lv_at hl 3 rfl) ?_
  refine lw_ld C hX hb hI.2.2.2.1 hl 1 (by decide) (by omega) hL dL_law_576 dL_law_577 dL_law_578 dL_law_579 dL_law_580 ?_
  refine lw_ld C hX hb hI.2.2.2.1 hl 2 (by decide) (by omega) hL dL_law_581 dL_law_582 dL_law_583 dL_law_584 dL_law_585 ?_
  refine lw_ld C hX hb hI.2.2.2.1 hl 3 (by decide) (by omega) hL dL_law_586 dL_law_587 dL_law_588 dL_law_589 dL_law_590 ?_
  refine lw_ld C hX hb hI.2.2.2.1 hl 4 (by decide) (by omega) hL dL_law_591 dL_law_592 dL_law_593 dL_law_594 dL_law_595 ?_
  refine lw_ld C hX hb hI.2.2.2.1 hl 5 (by decide) (by omega) hL dL_law_596 dL_law_597 dL_law_598 dL_law_599 dL_law_600 ?_
  refine M_callR C hI (kX8_feed l D cy (mq qm) _ _ _ _ _ _ _ _ _ _ _ _ h8) ml_L_56 im_X8_feed se_X8_feed ini_X8 co_X8_feed hyX8_feed rfl ⟨Nat.le_trans (by decide) hR.1, Nat.le_trans (by decide) hR.2.1, by have := hR.2.2.1; omega, by have := hR.2.2.2; omega⟩ hl.1 rfl (Nat.le_of_ble_eq_true rfl) dL_law_601 (fun H locs hI => ?_)
  refine lv_icmp_eq (tgt := 1421) C.1 C.2.1 dL_law_604 (by decide) (fun cn => ?_) (fun cn => absurd rfl cn)
  exact W.widen (Nat.le_add_right _ _) (Nat.le_add_right _ _) (kk H locs ⟨xx, ts, o0, o1, T, M, _, _, _, _, _, _, _, _, hI, hT, h0, h1, hr2⟩)
theorem lw_end (hp : PS_end Rel) (C : Cx p s m args meth c cL_law 4 RL ret) (hX : va_X b L xs s s.heap) (hb : b < s.heap.size) (hF : NX (PL s) s s.heap z) (hC : NC s) (hi : i + 6 ≤ L) (hL : L ≤ 3072) (hR : rml R cells slots) (hI : LI Rel D cy s H locs q z qm) (hl : lv_has ls 4 [(3, .int (nI i)), (0, .ref b), (1, .ref (q 99)), (2, .ref (mq qm 46))])
    (kk : ∀ (H : Heap) (locs : List Loc), LI Rel D cy s H locs q z qm → W p l e R s m args below meth c H locs (cells + 20) (slots + 2000) Q (F0 m 1421 ls [])) : W p l e R s m args below meth c H locs cells slots Q (F0 m 609 ls []) := by
  obtain ⟨xx, ts, o0, o1, T, M, I, J, A, B, I1, J1, A1, B1, hI, hT, h0, h1, hr⟩ := hI
  obtain ⟨r, I2, I3, h7, h8, hr2⟩ := hp (xs (i + 1)) _ _ _ _ _ _ _ _ _ _ hr
  refine lv_aload_n C.1 C.2.1 dL_law_609 rfl (lv_at hl 2 rfl) ?_
  refine lw_ld C hX hb hI.2.2.2.1 hl 1 (by decide) (by omega) hL dL_law_610 dL_law_611 dL_law_612 dL_law_613 dL_law_614 ?_
  refine C_callR C hI (kX7_end l D cy (PL s) q z _ _ _ _ _ _ _ _ _ h7) (rv_X7 hI) ml_L_57 im_X7_end se_X7_end ini_X7 co_X7_end hyX7_end rfl ⟨Nat.le_trans (by decide) hR.1, Nat.le_trans (by decide) hR.2.1, by have := hR.2.2.1; omega, by have := hR.2.2.2; omega⟩ hl.1 rfl (Nat.le_of_ble_eq_true rfl) dL_law_615 (fun H locs hI => ?_)
  refine lv_aload_n C.1 C.2.1 dL_law_618 rfl (lv_at hl 3 rfl) ?_
  refine lw_ld C hX hb hI.2.2.2.1 hl 1 (by decide) (by omega) hL dL_law_619 dL_law_620 dL_law_621 dL_law_622 dL_law_623 ?_
  refine M_callR C hI (kX8_end l D cy (mq qm) _ _ _ _ _ _ _ h8) ml_L_61 im_X8_end se_X8_end ini_X8 co_X8_end hyX8_end rfl ⟨Nat.le_trans (by decide) hR.1, Nat.le_trans (by decide) hR.2.1, by have := hR.2.2.1; omega, by have := hR.2.2.2; omega⟩ hl.1 rfl (Nat.le_of_ble_eq_true rfl) dL_law_624 (fun H locs hI => ?_)
  refine lv_icmp_eq (tgt := 1421) C.1 C.2.1 dL_law_627 (by decide) (fun cn => ?_) (fun cn => absurd rfl cn)
  exact W.widen (Nat.le_add_right _ _) (Nat.le_add_right _ _) (kk H locs ⟨xx, ts, o0, o1, T, M, _, _, _, _, _, _, _, _, hI, hT, h0, h1, hr2⟩)
theorem lw_fault (hp : PS_fault Rel) (C : Cx p s m args meth c cL_law 4 RL ret) (hX : va_X b L xs s s.heap) (hb : b < s.heap.size) (hF : NX (PL s) s s.heap z) (hC : NC s) (hi : i + 6 ≤ L) (hL : L ≤ 3072) (hR : rml R cells slots) (hI : LI Rel D cy s H locs q z qm) (hl : lv_has ls 4 [(3, .int (nI i)), (0, .ref b), (1, .ref (q 99)), (2, .ref (mq qm 46))])
    (kk : ∀ (H : Heap) (locs : List Loc), LI Rel D cy s H locs q z qm → W p l e R s m args below meth c H locs (cells + 20) (slots + 2000) Q (F0 m 1421 ls [])) : W p l e R s m args below meth c H locs cells slots Q (F0 m 645 ls []) := by
  obtain ⟨xx, ts, o0, o1, T, M, I, J, A, B, I1, J1, A1, B1, hI, hT, h0, h1, hr⟩ := hI
  obtain ⟨r, h7, h8, hr2⟩ := hp _ _ _ _ _ _ _ _ _ _ hr
  refine lv_aload_n C.1 C.2.1 dL_law_645 rfl (lv_at hl 2 rfl) ?_
  refine C_callR C hI (kX7_fault l D cy (PL s) q z _ _ _ _ _ _ _ h7) (rv_X7 hI) ml_L_67 im_X7_fault se_X7_fault ini_X7 co_X7_fault hyX7_fault rfl ⟨Nat.le_trans (by decide) hR.1, Nat.le_trans (by decide) hR.2.1, by have := hR.2.2.1; omega, by have := hR.2.2.2; omega⟩ hl.1 rfl (Nat.le_of_ble_eq_true rfl) dL_law_646 (fun H locs hI => ?_)
  refine lv_aload_n C.1 C.2.1 dL_law_649 rfl (lv_at hl 3 rfl) ?_
  refine M_callR C hI (kX8_fault l D cy (mq qm) _ _ _ _ _ h8) ml_L_70 im_X8_fault se_X8_fault ini_X8 co_X8_fault hyX8_fault rfl ⟨Nat.le_trans (by decide) hR.1, Nat.le_trans (by decide) hR.2.1, by have := hR.2.2.1; omega, by have := hR.2.2.2; omega⟩ hl.1 rfl (Nat.le_of_ble_eq_true rfl) dL_law_650 (fun H locs hI => ?_)
  refine lv_icmp_eq (tgt := 1421) C.1 C.2.1 dL_law_653 (by decide) (fun cn => ?_) (fun cn => absurd rfl cn)
  exact W.widen (Nat.le_add_right _ _) (Nat.le_add_right _ _) (kk H locs ⟨xx, ts, o0, o1, T, M, _, _, _, _, _, _, _, _, hI, hT, h0, h1, hr2⟩)
theorem lw_drawing (hp : PS_drawing Rel) (C : Cx p s m args meth c cL_law 4 RL ret) (hX : va_X b L xs s s.heap) (hb : b < s.heap.size) (hF : NX (PL s) s s.heap z) (hC : NC s) (hi : i + 6 ≤ L) (hL : L ≤ 3072) (hR : rml R cells slots) (hI : LI Rel D cy s H locs q z qm) (hl : lv_has ls 4 [(3, .int (nI i)), (0, .ref b), (1, .ref (q 99)), (2, .ref (mq qm 46))])
    (kk : ∀ (H : Heap) (locs : List Loc), LI Rel D cy s H locs q z qm → W p l e R s m args below meth c H locs (cells + 20) (slots + 2000) Q (F0 m 1421 ls [])) : W p l e R s m args below meth c H locs cells slots Q (F0 m 764 ls []) := by
  obtain ⟨xx, ts, o0, o1, T, M, I, J, A, B, I1, J1, A1, B1, hI, hT, h0, h1, hr⟩ := hI
  obtain ⟨r, h7, h8, hr2⟩ := hp (xs (i + 1)) (xs (i + 2)) _ _ _ _ _ _ _ _ _ _ hr
  refine lv_aload_n C.1 C.2.1 dL_law_764 rfl (lv_at hl 2 rfl) ?_
  refine lw_ld C hX hb hI.2.2.2.1 hl 1 (by decide) (by omega) hL dL_law_765 dL_law_766 dL_law_767 dL_law_768 dL_law_769 ?_
  refine lw_ld C hX hb hI.2.2.2.1 hl 2 (by decide) (by omega) hL dL_law_770 dL_law_771 dL_law_772 dL_law_773 dL_law_774 ?_
  refine C_callR C hI (kX7_drawing l D cy (PL s) q z _ _ _ _ _ _ _ _ _ h7) (rv_X7 hI) ml_L_79 im_X7_drawing se_X7_drawing ini_X7 co_X7_drawing hyX7_drawing rfl ⟨Nat.le_trans (by decide) hR.1, Nat.le_trans (by decide) hR.2.1, by have := hR.2.2.1; omega, by have := hR.2.2.2; omega⟩ hl.1 rfl (Nat.le_of_ble_eq_true rfl) dL_law_775 (fun H locs hI => ?_)
  refine lv_aload_n C.1 C.2.1 dL_law_778 rfl (lv_at hl 3 rfl) ?_
  refine lw_ld C hX hb hI.2.2.2.1 hl 1 (by decide) (by omega) hL dL_law_779 dL_law_780 dL_law_781 dL_law_782 dL_law_783 ?_
  refine lw_ld C hX hb hI.2.2.2.1 hl 2 (by decide) (by omega) hL dL_law_784 dL_law_785 dL_law_786 dL_law_787 dL_law_788 ?_
  refine M_callR C hI (kX8_drawing l D cy (mq qm) _ _ _ _ _ _ _ h8) ml_L_82 im_X8_drawing se_X8_drawing ini_X8 co_X8_drawing hyX8_drawing rfl ⟨Nat.le_trans (by decide) hR.1, Nat.le_trans (by decide) hR.2.1, by have := hR.2.2.1; omega, by have := hR.2.2.2; omega⟩ hl.1 rfl (Nat.le_of_ble_eq_true rfl) dL_law_789 (fun H locs hI => ?_)
  refine lv_icmp_eq (tgt := 1421) C.1 C.2.1 dL_law_792 (by decide) (fun cn => ?_) (fun cn => absurd rfl cn)
  exact W.widen (Nat.le_add_right _ _) (Nat.le_add_right _ _) (kk H locs ⟨xx, ts, o0, o1, T, M, _, _, _, _, _, _, _, _, hI, hT, h0, h1, hr2⟩)
theorem lw_saw (hp : PS_saw Rel) (C : Cx p s m args meth c cL_law 4 RL ret) (hX : va_X b L xs s s.heap) (hb : b < s.heap.size) (hF : NX (PL s) s s.heap z) (hC : NC s) (hi : i + 6 ≤ L) (hL : L ≤ 3072) (hR : rml R cells slots) (hI : LI Rel D cy s H locs q z qm) (hl : lv_has ls 4 [(3, .int (nI i)), (0, .ref b), (1, .ref (q 99)), (2, .ref (mq qm 46))])
    (kk : ∀ (H : Heap) (locs : List Loc), LI Rel D cy s H locs q z qm → W p l e R s m args below meth c H locs (cells + 20) (slots + 2000) Q (F0 m 1421 ls [])) : W p l e R s m args below meth c H locs cells slots Q (F0 m 797 ls []) := by
  obtain ⟨xx, ts, o0, o1, T, M, I, J, A, B, I1, J1, A1, B1, hI, hT, h0, h1, hr⟩ := hI
  obtain ⟨r, I2, J2, A2, B2, I3, J3, A3, B3, h7, h8, hr2⟩ := hp _ _ _ _ _ _ _ _ _ _ hr
  refine lv_aload_n C.1 C.2.1 dL_law_797 rfl (lv_at hl 2 rfl) ?_
  refine C_callR C hI (kX7_saw l D cy (PL s) q z _ _ _ _ _ _ _ _ _ _ _ h7) (rv_X7 hI) ml_L_83 im_X7_saw se_X7_saw ini_X7 co_X7_saw hyX7_saw rfl ⟨Nat.le_trans (by decide) hR.1, Nat.le_trans (by decide) hR.2.1, by have := hR.2.2.1; omega, by have := hR.2.2.2; omega⟩ hl.1 rfl (Nat.le_of_ble_eq_true rfl) dL_law_798 (fun H locs hI => ?_)
  refine lv_aload_n C.1 C.2.1 dL_law_801 rfl (lv_at hl 3 rfl) ?_
  refine M_callR C hI (kX8_saw l D cy (mq qm) _ _ _ _ _ _ _ _ _ h8) ml_L_86 im_X8_saw se_X8_saw ini_X8 co_X8_saw hyX8_saw rfl ⟨Nat.le_trans (by decide) hR.1, Nat.le_trans (by decide) hR.2.1, by have := hR.2.2.1; omega, by have := hR.2.2.2; omega⟩ hl.1 rfl (Nat.le_of_ble_eq_true rfl) dL_law_802 (fun H locs hI => ?_)
  refine lv_icmp_eq (tgt := 1421) C.1 C.2.1 dL_law_805 (by decide) (fun cn => ?_) (fun cn => absurd rfl cn)
  exact W.widen (Nat.le_add_right _ _) (Nat.le_add_right _ _) (kk H locs ⟨xx, ts, o0, o1, T, M, _, _, _, _, _, _, _, _, hI, hT, h0, h1, hr2⟩)
theorem lw_odds (hp : PS_odds Rel) (C : Cx p s m args meth c cL_law 4 RL ret) (hX : va_X b L xs s s.heap) (hb : b < s.heap.size) (hF : NX (PL s) s s.heap z) (hC : NC s) (hi : i + 6 ≤ L) (hL : L ≤ 3072) (hR : rml R cells slots) (hI : LI Rel D cy s H locs q z qm) (hl : lv_has ls 4 [(3, .int (nI i)), (0, .ref b), (1, .ref (q 99)), (2, .ref (mq qm 46))])
    (kk : ∀ (H : Heap) (locs : List Loc), LI Rel D cy s H locs q z qm → W p l e R s m args below meth c H locs (cells + 20) (slots + 2000) Q (F0 m 1421 ls [])) : W p l e R s m args below meth c H locs cells slots Q (F0 m 810 ls []) := by
  obtain ⟨xx, ts, o0, o1, T, M, I, J, A, B, I1, J1, A1, B1, hI, hT, h0, h1, hr⟩ := hI
  obtain ⟨r, I2, J2, A2, B2, I3, J3, A3, B3, h7, h8, hr2⟩ := hp (xs (i + 1)) _ _ _ _ _ _ _ _ _ _ hr
  refine lv_aload_n C.1 C.2.1 dL_law_810 rfl (lv_at hl 2 rfl) ?_
  refine lw_ld C hX hb hI.2.2.2.1 hl 1 (by decide) (by omega) hL dL_law_811 dL_law_812 dL_law_813 dL_law_814 dL_law_815 ?_
  refine C_callR C hI (kX7_odds l D cy (PL s) q z _ _ _ _ _ _ _ _ _ _ _ _ h7) (rv_X7 hI) ml_L_87 im_X7_odds se_X7_odds ini_X7 co_X7_odds hyX7_odds rfl ⟨Nat.le_trans (by decide) hR.1, Nat.le_trans (by decide) hR.2.1, by have := hR.2.2.1; omega, by have := hR.2.2.2; omega⟩ hl.1 rfl (Nat.le_of_ble_eq_true rfl) dL_law_816 (fun H locs hI => ?_)
  refine lv_aload_n C.1 C.2.1 dL_law_819 rfl (lv_at hl 3 rfl) ?_
  refine lw_ld C hX hb hI.2.2.2.1 hl 1 (by decide) (by omega) hL dL_law_820 dL_law_821 dL_law_822 dL_law_823 dL_law_824 ?_
  refine M_callR C hI (kX8_odds l D cy (mq qm) _ _ _ _ _ _ _ _ _ _ h8) ml_L_90 im_X8_odds se_X8_odds ini_X8 co_X8_odds hyX8_odds rfl ⟨Nat.le_trans (by decide) hR.1, Nat.le_trans (by decide) hR.2.1, by have := hR.2.2.1; omega, by have := hR.2.2.2; omega⟩ hl.1 rfl (Nat.le_of_ble_eq_true rfl) dL_law_825 (fun H locs hI => ?_)
  refine lv_icmp_eq (tgt := 1421) C.1 C.2.1 dL_law_828 (by decide) (fun cn => ?_) (fun cn => absurd rfl cn)
  exact W.widen (Nat.le_add_right _ _) (Nat.le_add_right _ _) (kk H locs ⟨xx, ts, o0, o1, T, M, _, _, _, _, _, _, _, _, hI, hT, h0, h1, hr2⟩)
theorem lw_wish (hp : PS_wish Rel) (C : Cx p s m args meth c cL_law 4 RL ret) (hX : va_X b L xs s s.heap) (hb : b < s.heap.size) (hF : NX (PL s) s s.heap z) (hC : NC s) (hi : i + 6 ≤ L) (hL : L ≤ 3072) (hR : rml R cells slots) (hI : LI Rel D cy s H locs q z qm) (hl : lv_has ls 4 [(3, .int (nI i)), (0, .ref b), (1, .ref (q 99)), (2, .ref (mq qm 46))])
    (kk : ∀ (H : Heap) (locs : List Loc), LI Rel D cy s H locs q z qm → W p l e R s m args below meth c H locs (cells + 20) (slots + 2000) Q (F0 m 1421 ls [])) : W p l e R s m args below meth c H locs cells slots Q (F0 m 833 ls []) := by
  obtain ⟨xx, ts, o0, o1, T, M, I, J, A, B, I1, J1, A1, B1, hI, hT, h0, h1, hr⟩ := hI
  obtain ⟨r, I2, A2, I3, A3, h7, h8, hr2⟩ := hp (xs (i + 1)) _ _ _ _ _ _ _ _ _ _ hr
  refine lv_aload_n C.1 C.2.1 dL_law_833 rfl (lv_at hl 2 rfl) ?_
  refine lw_ld C hX hb hI.2.2.2.1 hl 1 (by decide) (by omega) hL dL_law_834 dL_law_835 dL_law_836 dL_law_837 dL_law_838 ?_
  refine C_callR C hI (kX7_wish l D cy (PL s) q z _ _ _ _ _ _ _ _ _ _ h7) (rv_X7 hI) ml_L_91 im_X7_wish se_X7_wish ini_X7 co_X7_wish hyX7_wish rfl ⟨Nat.le_trans (by decide) hR.1, Nat.le_trans (by decide) hR.2.1, by have := hR.2.2.1; omega, by have := hR.2.2.2; omega⟩ hl.1 rfl (Nat.le_of_ble_eq_true rfl) dL_law_839 (fun H locs hI => ?_)
  refine lv_aload_n C.1 C.2.1 dL_law_842 rfl (lv_at hl 3 rfl) ?_
  refine lw_ld C hX hb hI.2.2.2.1 hl 1 (by decide) (by omega) hL dL_law_843 dL_law_844 dL_law_845 dL_law_846 dL_law_847 ?_
  refine M_callR C hI (kX8_wish l D cy (mq qm) _ _ _ _ _ _ _ _ h8) ml_L_94 im_X8_wish se_X8_wish ini_X8 co_X8_wish hyX8_wish rfl ⟨Nat.le_trans (by decide) hR.1, Nat.le_trans (by decide) hR.2.1, by have := hR.2.2.1; omega, by have := hR.2.2.2; omega⟩ hl.1 rfl (Nat.le_of_ble_eq_true rfl) dL_law_848 (fun H locs hI => ?_)
  refine lv_icmp_eq (tgt := 1421) C.1 C.2.1 dL_law_851 (by decide) (fun cn => ?_) (fun cn => absurd rfl cn)
  exact W.widen (Nat.le_add_right _ _) (Nat.le_add_right _ _) (kk H locs ⟨xx, ts, o0, o1, T, M, _, _, _, _, _, _, _, _, hI, hT, h0, h1, hr2⟩)
theorem lw_clear (hp : PS_clear Rel) (C : Cx p s m args meth c cL_law 4 RL ret) (hX : va_X b L xs s s.heap) (hb : b < s.heap.size) (hF : NX (PL s) s s.heap z) (hC : NC s) (hi : i + 6 ≤ L) (hL : L ≤ 3072) (hR : rml R cells slots) (hI : LI Rel D cy s H locs q z qm) (hl : lv_has ls 4 [(3, .int (nI i)), (0, .ref b), (1, .ref (q 99)), (2, .ref (mq qm 46))])
    (kk : ∀ (H : Heap) (locs : List Loc), LI Rel D cy s H locs q z qm → W p l e R s m args below meth c H locs (cells + 20) (slots + 2000) Q (F0 m 1421 ls [])) : W p l e R s m args below meth c H locs cells slots Q (F0 m 856 ls []) := by
  obtain ⟨xx, ts, o0, o1, T, M, I, J, A, B, I1, J1, A1, B1, hI, hT, h0, h1, hr⟩ := hI
  obtain ⟨r, I2, I3, h7, h8, hr2⟩ := hp _ _ _ _ _ _ _ _ _ _ hr
  refine lv_aload_n C.1 C.2.1 dL_law_856 rfl (lv_at hl 2 rfl) ?_
  refine C_callR C hI (kX7_clear l D cy (PL s) q z _ _ _ _ _ _ _ _ h7) (rv_X7 hI) ml_L_95 im_X7_clear se_X7_clear ini_X7 co_X7_clear hyX7_clear rfl ⟨Nat.le_trans (by decide) hR.1, Nat.le_trans (by decide) hR.2.1, by have := hR.2.2.1; omega, by have := hR.2.2.2; omega⟩ hl.1 rfl (Nat.le_of_ble_eq_true rfl) dL_law_857 (fun H locs hI => ?_)
  refine lv_aload_n C.1 C.2.1 dL_law_860 rfl (lv_at hl 3 rfl) ?_
  refine M_callR C hI (kX8_clear l D cy (mq qm) _ _ _ _ _ _ h8) ml_L_98 im_X8_clear se_X8_clear ini_X8 co_X8_clear hyX8_clear rfl ⟨Nat.le_trans (by decide) hR.1, Nat.le_trans (by decide) hR.2.1, by have := hR.2.2.1; omega, by have := hR.2.2.2; omega⟩ hl.1 rfl (Nat.le_of_ble_eq_true rfl) dL_law_861 (fun H locs hI => ?_)
  refine lv_icmp_eq (tgt := 1421) C.1 C.2.1 dL_law_864 (by decide) (fun cn => ?_) (fun cn => absurd rfl cn)
  exact W.widen (Nat.le_add_right _ _) (Nat.le_add_right _ _) (kk H locs ⟨xx, ts, o0, o1, T, M, _, _, _, _, _, _, _, _, hI, hT, h0, h1, hr2⟩)
theorem lw_best (hp : PS_best Rel) (C : Cx p s m args meth c cL_law 4 RL ret) (hX : va_X b L xs s s.heap) (hb : b < s.heap.size) (hF : NX (PL s) s s.heap z) (hC : NC s) (hi : i + 6 ≤ L) (hL : L ≤ 3072) (hR : rml R cells slots) (hI : LI Rel D cy s H locs q z qm) (hl : lv_has ls 4 [(3, .int (nI i)), (0, .ref b), (1, .ref (q 99)), (2, .ref (mq qm 46))])
    (kk : ∀ (H : Heap) (locs : List Loc), LI Rel D cy s H locs q z qm → W p l e R s m args below meth c H locs (cells + 20) (slots + 2000) Q (F0 m 1421 ls [])) : W p l e R s m args below meth c H locs cells slots Q (F0 m 869 ls []) := by
  obtain ⟨xx, ts, o0, o1, T, M, I, J, A, B, I1, J1, A1, B1, hI, hT, h0, h1, hr⟩ := hI
  obtain ⟨r, I2, J2, A2, B2, I3, J3, A3, B3, h7, h8, hr2⟩ := hp _ _ _ _ _ _ _ _ _ _ hr
  refine lv_aload_n C.1 C.2.1 dL_law_869 rfl (lv_at hl 2 rfl) ?_
  refine C_callR C hI (kX7_best l D cy (PL s) q z _ _ _ _ _ _ _ _ _ _ _ h7) (rv_X7 hI) ml_L_99 im_X7_best se_X7_best ini_X7 co_X7_best hyX7_best rfl ⟨Nat.le_trans (by decide) hR.1, Nat.le_trans (by decide) hR.2.1, by have := hR.2.2.1; omega, by have := hR.2.2.2; omega⟩ hl.1 rfl (Nat.le_of_ble_eq_true rfl) dL_law_870 (fun H locs hI => ?_)
  refine lv_aload_n C.1 C.2.1 dL_law_873 rfl (lv_at hl 3 rfl) ?_
  refine M_callR C hI (kX8_best l D cy (mq qm) _ _ _ _ _ _ _ _ _ h8) ml_L_103 im_X8_best se_X8_best ini_X8 co_X8_best hyX8_best rfl ⟨Nat.le_trans (by decide) hR.1, Nat.le_trans (by decide) hR.2.1, by have := hR.2.2.1; omega, by have := hR.2.2.2; omega⟩ hl.1 rfl (Nat.le_of_ble_eq_true rfl) dL_law_874 (fun H locs hI => ?_)
  refine W.lcmp C.1 C.2.1 dL_law_877 ?_
  refine lv_if_eq (tgt := 1421) C.1 C.2.1 dL_law_878 (by decide) (fun cn => ?_) (fun cn => absurd (lcmp_self _) cn)
  exact W.widen (Nat.le_add_right _ _) (Nat.le_add_right _ _) (kk H locs ⟨xx, ts, o0, o1, T, M, _, _, _, _, _, _, _, _, hI, hT, h0, h1, hr2⟩)
theorem lw_night (hp : PS_night Rel) (C : Cx p s m args meth c cL_law 4 RL ret) (hX : va_X b L xs s s.heap) (hb : b < s.heap.size) (hF : NX (PL s) s s.heap z) (hC : NC s) (hi : i + 6 ≤ L) (hL : L ≤ 3072) (hR : rml R cells slots) (hI : LI Rel D cy s H locs q z qm) (hl : lv_has ls 4 [(3, .int (nI i)), (0, .ref b), (1, .ref (q 99)), (2, .ref (mq qm 46))])
    (kk : ∀ (H : Heap) (locs : List Loc), LI Rel D cy s H locs q z qm → W p l e R s m args below meth c H locs (cells + 20) (slots + 2000) Q (F0 m 1421 ls [])) : W p l e R s m args below meth c H locs cells slots Q (F0 m 883 ls []) := by
  obtain ⟨xx, ts, o0, o1, T, M, I, J, A, B, I1, J1, A1, B1, hI, hT, h0, h1, hr⟩ := hI
  obtain ⟨r, h7, h8, hr2⟩ := hp (xs (i + 1)) _ _ _ _ _ _ _ _ _ _ hr
  refine lv_aload_n C.1 C.2.1 dL_law_883 rfl (lv_at hl 2 rfl) ?_
  refine lw_ld C hX hb hI.2.2.2.1 hl 1 (by decide) (by omega) hL dL_law_884 dL_law_885 dL_law_886 dL_law_887 dL_law_888 ?_
  refine C_callR C hI (kX7_night l D cy (PL s) q z _ _ _ _ _ _ _ _ h7) (rv_X7 hI) ml_L_104 im_X7_night se_X7_night ini_X7 co_X7_night hyX7_night rfl ⟨Nat.le_trans (by decide) hR.1, Nat.le_trans (by decide) hR.2.1, by have := hR.2.2.1; omega, by have := hR.2.2.2; omega⟩ hl.1 rfl (Nat.le_of_ble_eq_true rfl) dL_law_889 (fun H locs hI => ?_)
  refine lv_aload_n C.1 C.2.1 dL_law_892 rfl (lv_at hl 3 rfl) ?_
  refine lw_ld C hX hb hI.2.2.2.1 hl 1 (by decide) (by omega) hL dL_law_893 dL_law_894 dL_law_895 dL_law_896 dL_law_897 ?_
  refine M_callR C hI (kX8_night l D cy (mq qm) _ _ _ _ _ _ h8) ml_L_107 im_X8_night se_X8_night ini_X8 co_X8_night hyX8_night rfl ⟨Nat.le_trans (by decide) hR.1, Nat.le_trans (by decide) hR.2.1, by have := hR.2.2.1; omega, by have := hR.2.2.2; omega⟩ hl.1 rfl (Nat.le_of_ble_eq_true rfl) dL_law_898 (fun H locs hI => ?_)
  refine lv_icmp_eq (tgt := 1421) C.1 C.2.1 dL_law_901 (by decide) (fun cn => ?_) (fun cn => absurd rfl cn)
  exact W.widen (Nat.le_add_right _ _) (Nat.le_add_right _ _) (kk H locs ⟨xx, ts, o0, o1, T, M, _, _, _, _, _, _, _, _, hI, hT, h0, h1, hr2⟩)
theorem lw_low (hp : PS_low Rel) (C : Cx p s m args meth c cL_law 4 RL ret) (hX : va_X b L xs s s.heap) (hb : b < s.heap.size) (hF : NX (PL s) s s.heap z) (hC : NC s) (hi : i + 6 ≤ L) (hL : L ≤ 3072) (hR : rml R cells slots) (hI : LI Rel D cy s H locs q z qm) (hl : lv_has ls 4 [(3, .int (nI i)), (0, .ref b), (1, .ref (q 99)), (2, .ref (mq qm 46))])
    (kk : ∀ (H : Heap) (locs : List Loc), LI Rel D cy s H locs q z qm → W p l e R s m args below meth c H locs (cells + 20) (slots + 2000) Q (F0 m 1421 ls [])) : W p l e R s m args below meth c H locs cells slots Q (F0 m 906 ls []) := by
  obtain ⟨xx, ts, o0, o1, T, M, I, J, A, B, I1, J1, A1, B1, hI, hT, h0, h1, hr⟩ := hI
  obtain ⟨r, I2, J2, A2, B2, I3, J3, A3, B3, h7, h8, hr2⟩ := hp _ _ _ _ _ _ _ _ _ _ hr
  refine lv_aload_n C.1 C.2.1 dL_law_906 rfl (lv_at hl 2 rfl) ?_
  refine C_callR C hI (kX7_low l D cy (PL s) q z _ _ _ _ _ _ _ _ _ _ _ h7) (rv_X7 hI) ml_L_108 im_X7_low se_X7_low ini_X7 co_X7_low hyX7_low rfl ⟨Nat.le_trans (by decide) hR.1, Nat.le_trans (by decide) hR.2.1, by have := hR.2.2.1; omega, by have := hR.2.2.2; omega⟩ hl.1 rfl (Nat.le_of_ble_eq_true rfl) dL_law_907 (fun H locs hI => ?_)
  refine lv_aload_n C.1 C.2.1 dL_law_910 rfl (lv_at hl 3 rfl) ?_
  refine M_callR C hI (kX8_low l D cy (mq qm) _ _ _ _ _ _ _ _ _ h8) ml_L_111 im_X8_low se_X8_low ini_X8 co_X8_low hyX8_low rfl ⟨Nat.le_trans (by decide) hR.1, Nat.le_trans (by decide) hR.2.1, by have := hR.2.2.1; omega, by have := hR.2.2.2; omega⟩ hl.1 rfl (Nat.le_of_ble_eq_true rfl) dL_law_911 (fun H locs hI => ?_)
  refine W.lcmp C.1 C.2.1 dL_law_914 ?_
  refine lv_if_eq (tgt := 1421) C.1 C.2.1 dL_law_915 (by decide) (fun cn => ?_) (fun cn => absurd (lcmp_self _) cn)
  exact W.widen (Nat.le_add_right _ _) (Nat.le_add_right _ _) (kk H locs ⟨xx, ts, o0, o1, T, M, _, _, _, _, _, _, _, _, hI, hT, h0, h1, hr2⟩)
theorem lw_enough (hp : PS_enough Rel) (C : Cx p s m args meth c cL_law 4 RL ret) (hX : va_X b L xs s s.heap) (hb : b < s.heap.size) (hF : NX (PL s) s s.heap z) (hC : NC s) (hi : i + 6 ≤ L) (hL : L ≤ 3072) (hR : rml R cells slots) (hI : LI Rel D cy s H locs q z qm) (hl : lv_has ls 4 [(3, .int (nI i)), (0, .ref b), (1, .ref (q 99)), (2, .ref (mq qm 46))])
    (kk : ∀ (H : Heap) (locs : List Loc), LI Rel D cy s H locs q z qm → W p l e R s m args below meth c H locs (cells + 20) (slots + 2000) Q (F0 m 1421 ls [])) : W p l e R s m args below meth c H locs cells slots Q (F0 m 920 ls []) := by
  obtain ⟨xx, ts, o0, o1, T, M, I, J, A, B, I1, J1, A1, B1, hI, hT, h0, h1, hr⟩ := hI
  obtain ⟨r, I2, J2, A2, B2, J3, A3, B3, h7, h8, hr2⟩ := hp (xs (i + 1)) _ _ _ _ _ _ _ _ _ _ hr
  refine lv_aload_n C.1 C.2.1 dL_law_920 rfl (lv_at hl 2 rfl) ?_
  refine lw_ld C hX hb hI.2.2.2.1 hl 1 (by decide) (by omega) hL dL_law_921 dL_law_922 dL_law_923 dL_law_924 dL_law_925 ?_
  refine C_callR C hI (kX7_enough l D cy (PL s) q z _ _ _ _ _ _ _ _ _ _ _ _ h7) (rv_X7 hI) ml_L_112 im_X7_enough se_X7_enough ini_X7 co_X7_enough hyX7_enough rfl ⟨Nat.le_trans (by decide) hR.1, Nat.le_trans (by decide) hR.2.1, by have := hR.2.2.1; omega, by have := hR.2.2.2; omega⟩ hl.1 rfl (Nat.le_of_ble_eq_true rfl) dL_law_926 (fun H locs hI => ?_)
  refine lv_aload_n C.1 C.2.1 dL_law_929 rfl (lv_at hl 3 rfl) ?_
  refine lw_ld C hX hb hI.2.2.2.1 hl 1 (by decide) (by omega) hL dL_law_930 dL_law_931 dL_law_932 dL_law_933 dL_law_934 ?_
  refine M_callR C hI (kX8_enough l D cy (mq qm) _ _ _ _ _ _ _ _ _ h8) ml_L_115 im_X8_enough se_X8_enough ini_X8 co_X8_enough hyX8_enough rfl ⟨Nat.le_trans (by decide) hR.1, Nat.le_trans (by decide) hR.2.1, by have := hR.2.2.1; omega, by have := hR.2.2.2; omega⟩ hl.1 rfl (Nat.le_of_ble_eq_true rfl) dL_law_935 (fun H locs hI => ?_)
  refine lv_icmp_eq (tgt := 1421) C.1 C.2.1 dL_law_938 (by decide) (fun cn => ?_) (fun cn => absurd rfl cn)
  exact W.widen (Nat.le_add_right _ _) (Nat.le_add_right _ _) (kk H locs ⟨xx, ts, o0, o1, T, M, _, _, _, _, _, _, _, _, hI, hT, h0, h1, hr2⟩)
theorem lw_move (hp : PS_move Rel) (C : Cx p s m args meth c cL_law 4 RL ret) (hX : va_X b L xs s s.heap) (hb : b < s.heap.size) (hF : NX (PL s) s s.heap z) (hC : NC s) (hi : i + 6 ≤ L) (hL : L ≤ 3072) (hR : rml R cells slots) (hI : LI Rel D cy s H locs q z qm) (hl : lv_has ls 4 [(3, .int (nI i)), (0, .ref b), (1, .ref (q 99)), (2, .ref (mq qm 46))])
    (kk : ∀ (H : Heap) (locs : List Loc), LI Rel D cy s H locs q z qm → W p l e R s m args below meth c H locs (cells + 20) (slots + 2000) Q (F0 m 1421 ls [])) : W p l e R s m args below meth c H locs cells slots Q (F0 m 943 ls []) := by
  obtain ⟨xx, ts, o0, o1, T, M, I, J, A, B, I1, J1, A1, B1, hI, hT, h0, h1, hr⟩ := hI
  obtain ⟨r, I2, J2, A2, B2, J3, A3, B3, h7, h8, hr2⟩ := hp _ _ _ _ _ _ _ _ _ _ hr
  refine lv_aload_n C.1 C.2.1 dL_law_943 rfl (lv_at hl 2 rfl) ?_
  refine C_callR C hI (kX7_move l D cy (PL s) q z _ _ _ _ _ _ _ _ _ _ _ h7) (rv_X7 hI) ml_L_116 im_X7_move se_X7_move ini_X7 co_X7_move hyX7_move rfl ⟨Nat.le_trans (by decide) hR.1, Nat.le_trans (by decide) hR.2.1, by have := hR.2.2.1; omega, by have := hR.2.2.2; omega⟩ hl.1 rfl (Nat.le_of_ble_eq_true rfl) dL_law_944 (fun H locs hI => ?_)
  refine lv_aload_n C.1 C.2.1 dL_law_947 rfl (lv_at hl 3 rfl) ?_
  refine M_callR C hI (kX8_move l D cy (mq qm) _ _ _ _ _ _ _ _ h8) ml_L_119 im_X8_move se_X8_move ini_X8 co_X8_move hyX8_move rfl ⟨Nat.le_trans (by decide) hR.1, Nat.le_trans (by decide) hR.2.1, by have := hR.2.2.1; omega, by have := hR.2.2.2; omega⟩ hl.1 rfl (Nat.le_of_ble_eq_true rfl) dL_law_948 (fun H locs hI => ?_)
  refine lv_icmp_eq (tgt := 1421) C.1 C.2.1 dL_law_951 (by decide) (fun cn => ?_) (fun cn => absurd rfl cn)
  exact W.widen (Nat.le_add_right _ _) (Nat.le_add_right _ _) (kk H locs ⟨xx, ts, o0, o1, T, M, _, _, _, _, _, _, _, _, hI, hT, h0, h1, hr2⟩)
theorem lw_find (hp : PS_find Rel) (C : Cx p s m args meth c cL_law 4 RL ret) (hX : va_X b L xs s s.heap) (hb : b < s.heap.size) (hF : NX (PL s) s s.heap z) (hC : NC s) (hi : i + 6 ≤ L) (hL : L ≤ 3072) (hR : rml R cells slots) (hI : LI Rel D cy s H locs q z qm) (hl : lv_has ls 4 [(3, .int (nI i)), (0, .ref b), (1, .ref (q 99)), (2, .ref (mq qm 46))])
    (kk : ∀ (H : Heap) (locs : List Loc), LI Rel D cy s H locs q z qm → W p l e R s m args below meth c H locs (cells + 20) (slots + 2000) Q (F0 m 1421 ls [])) : W p l e R s m args below meth c H locs cells slots Q (F0 m 956 ls []) := by
  obtain ⟨xx, ts, o0, o1, T, M, I, J, A, B, I1, J1, A1, B1, hI, hT, h0, h1, hr⟩ := hI
  obtain ⟨r, I2, A2, I3, A3, h7, h8, hr2⟩ := hp (xs (i + 1)) (xs (i + 2)) (xs (i + 3)) _ _ _ _ _ _ _ _ _ _ hr
  refine lv_aload_n C.1 C.2.1 dL_law_956 rfl (lv_at hl 2 rfl) ?_
  refine lw_ld C hX hb hI.2.2.2.1 hl 1 (by decide) (by omega) hL dL_law_957 dL_law_958 dL_law_959 dL_law_960 dL_law_961 ?_
  refine lw_ld C hX hb hI.2.2.2.1 hl 2 (by decide) (by omega) hL dL_law_962 dL_law_963 dL_law_964 dL_law_965 dL_law_966 ?_
  refine lw_ld C hX hb hI.2.2.2.1 hl 3 (by decide) (by omega) hL dL_law_967 dL_law_968 dL_law_969 dL_law_970 dL_law_971 ?_
  refine C_callR C hI (kX7_find l D cy (PL s) q z _ _ _ _ _ _ _ _ _ _ _ _ h7) (rv_X7 hI) ml_L_120 im_X7_find se_X7_find ini_X7 co_X7_find hyX7_find rfl ⟨Nat.le_trans (by decide) hR.1, Nat.le_trans (by decide) hR.2.1, by have := hR.2.2.1; omega, by have := hR.2.2.2; omega⟩ hl.1 rfl (Nat.le_of_ble_eq_true rfl) dL_law_972 (fun H locs hI => ?_)
  refine lv_aload_n C.1 C.2.1 dL_law_975 rfl (lv_at hl 3 rfl) ?_
  refine lw_ld C hX hb hI.2.2.2.1 hl 1 (by decide) (by omega) hL dL_law_976 dL_law_977 dL_law_978 dL_law_979 dL_law_980 ?_
  refine lw_ld C hX hb hI.2.2.2.1 hl 2 (by decide) (by omega) hL dL_law_981 dL_law_982 dL_law_983 dL_law_984 dL_law_985 ?_
  refine lw_ld C hX hb hI.2.2.2.1 hl 3 (by decide) (by omega) hL dL_law_986 dL_law_987 dL_law_988 dL_law_989 dL_law_990 ?_
  refine M_callR C hI (kX8_find l D cy (mq qm) _ _ _ _ _ _ _ _ _ _ h8) ml_L_123 im_X8_find se_X8_find ini_X8 co_X8_find hyX8_find rfl ⟨Nat.le_trans (by decide) hR.1, Nat.le_trans (by decide) hR.2.1, by have := hR.2.2.1; omega, by have := hR.2.2.2; omega⟩ hl.1 rfl (Nat.le_of_ble_eq_true rfl) dL_law_991 (fun H locs hI => ?_)
  refine lv_icmp_eq (tgt := 1421) C.1 C.2.1 dL_law_994 (by decide) (fun cn => ?_) (fun cn => absurd rfl cn)
  exact W.widen (Nat.le_add_right _ _) (Nat.le_add_right _ _) (kk H locs ⟨xx, ts, o0, o1, T, M, _, _, _, _, _, _, _, _, hI, hT, h0, h1, hr2⟩)
theorem lw_tell (hp : PS_tell Rel) (C : Cx p s m args meth c cL_law 4 RL ret) (hX : va_X b L xs s s.heap) (hb : b < s.heap.size) (hF : NX (PL s) s s.heap z) (hC : NC s) (hi : i + 6 ≤ L) (hL : L ≤ 3072) (hR : rml R cells slots) (hI : LI Rel D cy s H locs q z qm) (hl : lv_has ls 4 [(3, .int (nI i)), (0, .ref b), (1, .ref (q 99)), (2, .ref (mq qm 46))])
    (kk : ∀ (H : Heap) (locs : List Loc), LI Rel D cy s H locs q z qm → W p l e R s m args below meth c H locs (cells + 20) (slots + 2000) Q (F0 m 1421 ls [])) : W p l e R s m args below meth c H locs cells slots Q (F0 m 999 ls []) := by
  obtain ⟨xx, ts, o0, o1, T, M, I, J, A, B, I1, J1, A1, B1, hI, hT, h0, h1, hr⟩ := hI
  obtain ⟨r, I2, A2, I3, A3, h7, h8, hr2⟩ := hp (xs (i + 1)) (xs (i + 2)) (xs (i + 3)) (xs (i + 4)) _ _ _ _ _ _ _ _ _ _ hr
  refine lv_aload_n C.1 C.2.1 dL_law_999 rfl (lv_at hl 2 rfl) ?_
  refine lw_ld C hX hb hI.2.2.2.1 hl 1 (by decide) (by omega) hL dL_law_1000 dL_law_1001 dL_law_1002 dL_law_1003 dL_law_1004 ?_
  refine lw_ld C hX hb hI.2.2.2.1 hl 2 (by decide) (by omega) hL dL_law_1005 dL_law_1006 dL_law_1007 dL_law_1008 dL_law_1009 ?_
  refine lw_ld C hX hb hI.2.2.2.1 hl 3 (by decide) (by omega) hL dL_law_1010 dL_law_1011 dL_law_1012 dL_law_1013 dL_law_1014 ?_
  refine lw_ld C hX hb hI.2.2.2.1 hl 4 (by decide) (by omega) hL dL_law_1015 dL_law_1016 dL_law_1017 dL_law_1018 dL_law_1019 ?_
  refine C_callR C hI (kX7_tell l D cy (PL s) q z _ _ _ _ _ _ _ _ _ _ _ _ _ h7) (rv_X7 hI) ml_L_124 im_X7_tell se_X7_tell ini_X7 co_X7_tell hyX7_tell rfl ⟨Nat.le_trans (by decide) hR.1, Nat.le_trans (by decide) hR.2.1, by have := hR.2.2.1; omega, by have := hR.2.2.2; omega⟩ hl.1 rfl (Nat.le_of_ble_eq_true rfl) dL_law_1020 (fun H locs hI => ?_)
  refine lv_aload_n C.1 C.2.1 dL_law_1023 rfl (lv_at hl 3 rfl) ?_
  refine lw_ld C hX hb hI.2.2.2.1 hl 1 (by decide) (by omega) hL dL_law_1024 dL_law_1025 dL_law_1026 dL_law_1027 dL_law_1028 ?_
  refine lw_ld C hX hb hI.2.2.2.1 hl 2 (by decide) (by omega) hL dL_law_1029 dL_law_1030 dL_law_1031 dL_law_1032 dL_law_1033 ?_
  refine lw_ld C hX hb hI.2.2.2.1 hl 3 (by decide) (by omega) hL dL_law_1034 dL_law_1035 dL_law_1036 dL_law_1037 dL_law_1038 ?_
  refine lw_ld C hX hb hI.2.2.2.1 hl 4 (by decide) (by omega) hL dL_law_1039 dL_law_1040 dL_law_1041 dL_law_1042 dL_law_1043 ?_
  refine M_callR C hI (kX8_tell l D cy (mq qm) _ _ _ _ _ _ _ _ _ _ _ h8) ml_L_128 im_X8_tell se_X8_tell ini_X8 co_X8_tell hyX8_tell rfl ⟨Nat.le_trans (by decide) hR.1, Nat.le_trans (by decide) hR.2.1, by have := hR.2.2.1; omega, by have := hR.2.2.2; omega⟩ hl.1 rfl (Nat.le_of_ble_eq_true rfl) dL_law_1044 (fun H locs hI => ?_)
  refine lv_icmp_eq (tgt := 1421) C.1 C.2.1 dL_law_1047 (by decide) (fun cn => ?_) (fun cn => absurd rfl cn)
  exact W.widen (Nat.le_add_right _ _) (Nat.le_add_right _ _) (kk H locs ⟨xx, ts, o0, o1, T, M, _, _, _, _, _, _, _, _, hI, hT, h0, h1, hr2⟩)
theorem lw_knew (hp : PS_knew Rel) (C : Cx p s m args meth c cL_law 4 RL ret) (hX : va_X b L xs s s.heap) (hb : b < s.heap.size) (hF : NX (PL s) s s.heap z) (hC : NC s) (hi : i + 6 ≤ L) (hL : L ≤ 3072) (hR : rml R cells slots) (hI : LI Rel D cy s H locs q z qm) (hl : lv_has ls 4 [(3, .int (nI i)), (0, .ref b), (1, .ref (q 99)), (2, .ref (mq qm 46))])
    (kk : ∀ (H : Heap) (locs : List Loc), LI Rel D cy s H locs q z qm → W p l e R s m args below meth c H locs (cells + 20) (slots + 2000) Q (F0 m 1421 ls [])) : W p l e R s m args below meth c H locs cells slots Q (F0 m 1052 ls []) := by
  obtain ⟨xx, ts, o0, o1, T, M, I, J, A, B, I1, J1, A1, B1, hI, hT, h0, h1, hr⟩ := hI
  obtain ⟨r, h7, h8, hr2⟩ := hp (xs (i + 1)) (xs (i + 2)) _ _ _ _ _ _ _ _ _ _ hr
  refine lv_aload_n C.1 C.2.1 dL_law_1052 rfl (lv_at hl 2 rfl) ?_
  refine lw_ld C hX hb hI.2.2.2.1 hl 1 (by decide) (by omega) hL dL_law_1053 dL_law_1054 dL_law_1055 dL_law_1056 dL_law_1057 ?_
  refine lw_ld C hX hb hI.2.2.2.1 hl 2 (by decide) (by omega) hL dL_law_1058 dL_law_1059 dL_law_1060 dL_law_1061 dL_law_1062 ?_
  refine C_callR C hI (kX7_knew l D cy (PL s) q z _ _ _ _ _ _ _ _ _ h7) (rv_X7 hI) ml_L_129 im_X7_knew se_X7_knew ini_X7 co_X7_knew hyX7_knew rfl ⟨Nat.le_trans (by decide) hR.1, Nat.le_trans (by decide) hR.2.1, by have := hR.2.2.1; omega, by have := hR.2.2.2; omega⟩ hl.1 rfl (Nat.le_of_ble_eq_true rfl) dL_law_1063 (fun H locs hI => ?_)
  refine lv_aload_n C.1 C.2.1 dL_law_1066 rfl (lv_at hl 3 rfl) ?_
  refine lw_ld C hX hb hI.2.2.2.1 hl 1 (by decide) (by omega) hL dL_law_1067 dL_law_1068 dL_law_1069 dL_law_1070 dL_law_1071 ?_
  refine lw_ld C hX hb hI.2.2.2.1 hl 2 (by decide) (by omega) hL dL_law_1072 dL_law_1073 dL_law_1074 dL_law_1075 dL_law_1076 ?_
  refine M_callR C hI (kX8_knew l D cy (mq qm) _ _ _ _ _ _ _ h8) ml_L_132 im_X8_knew se_X8_knew ini_X8 co_X8_knew hyX8_knew rfl ⟨Nat.le_trans (by decide) hR.1, Nat.le_trans (by decide) hR.2.1, by have := hR.2.2.1; omega, by have := hR.2.2.2; omega⟩ hl.1 rfl (Nat.le_of_ble_eq_true rfl) dL_law_1077 (fun H locs hI => ?_)
  refine lv_icmp_eq (tgt := 1421) C.1 C.2.1 dL_law_1080 (by decide) (fun cn => ?_) (fun cn => absurd rfl cn)
  exact W.widen (Nat.le_add_right _ _) (Nat.le_add_right _ _) (kk H locs ⟨xx, ts, o0, o1, T, M, _, _, _, _, _, _, _, _, hI, hT, h0, h1, hr2⟩)
theorem lw_owed (hp : PS_owed Rel) (C : Cx p s m args meth c cL_law 4 RL ret) (hX : va_X b L xs s s.heap) (hb : b < s.heap.size) (hF : NX (PL s) s s.heap z) (hC : NC s) (hi : i + 6 ≤ L) (hL : L ≤ 3072) (hR : rml R cells slots) (hI : LI Rel D cy s H locs q z qm) (hl : lv_has ls 4 [(3, .int (nI i)), (0, .ref b), (1, .ref (q 99)), (2, .ref (mq qm 46))])
    (kk : ∀ (H : Heap) (locs : List Loc), LI Rel D cy s H locs q z qm → W p l e R s m args below meth c H locs (cells + 20) (slots + 2000) Q (F0 m 1421 ls [])) : W p l e R s m args below meth c H locs cells slots Q (F0 m 1085 ls []) := by
  obtain ⟨xx, ts, o0, o1, T, M, I, J, A, B, I1, J1, A1, B1, hI, hT, h0, h1, hr⟩ := hI
  obtain ⟨r, h7, h8, hr2⟩ := hp (xs (i + 1)) (xs (i + 2)) (xs (i + 3)) _ _ _ _ _ _ _ _ _ _ hr
  refine lv_aload_n C.1 C.2.1 dL_law_1085 rfl (lv_at hl 2 rfl) ?_
  refine lw_ld C hX hb hI.2.2.2.1 hl 1 (by decide) (by omega) hL dL_law_1086 dL_law_1087 dL_law_1088 dL_law_1089 dL_law_1090 ?_
  refine lw_ld C hX hb hI.2.2.2.1 hl 2 (by decide) (by omega) hL dL_law_1091 dL_law_1092 dL_law_1093 dL_law_1094 dL_law_1095 ?_
  refine lw_ld C hX hb hI.2.2.2.1 hl 3 (by decide) (by omega) hL dL_law_1096 dL_law_1097 dL_law_1098 dL_law_1099 dL_law_1100 ?_
  refine C_callR C hI (kX7_owed l D cy (PL s) q z _ _ _ _ _ _ _ _ _ _ h7) (rv_X7 hI) ml_L_133 im_X7_owed se_X7_owed ini_X7 co_X7_owed hyX7_owed rfl ⟨Nat.le_trans (by decide) hR.1, Nat.le_trans (by decide) hR.2.1, by have := hR.2.2.1; omega, by have := hR.2.2.2; omega⟩ hl.1 rfl (Nat.le_of_ble_eq_true rfl) dL_law_1101 (fun H locs hI => ?_)
  refine lv_aload_n C.1 C.2.1 dL_law_1104 rfl (lv_at hl 3 rfl) ?_
  refine lw_ld C hX hb hI.2.2.2.1 hl 1 (by decide) (by omega) hL dL_law_1105 dL_law_1106 dL_law_1107 dL_law_1108 dL_law_1109 ?_
  refine lw_ld C hX hb hI.2.2.2.1 hl 2 (by decide) (by omega) hL dL_law_1110 dL_law_1111 dL_law_1112 dL_law_1113 dL_law_1114 ?_
  refine lw_ld C hX hb hI.2.2.2.1 hl 3 (by decide) (by omega) hL dL_law_1115 dL_law_1116 dL_law_1117 dL_law_1118 dL_law_1119 ?_
  refine M_callR C hI (kX8_owed l D cy (mq qm) _ _ _ _ _ _ _ _ h8) ml_L_136 im_X8_owed se_X8_owed ini_X8 co_X8_owed hyX8_owed rfl ⟨Nat.le_trans (by decide) hR.1, Nat.le_trans (by decide) hR.2.1, by have := hR.2.2.1; omega, by have := hR.2.2.2; omega⟩ hl.1 rfl (Nat.le_of_ble_eq_true rfl) dL_law_1120 (fun H locs hI => ?_)
  refine lv_icmp_eq (tgt := 1421) C.1 C.2.1 dL_law_1123 (by decide) (fun cn => ?_) (fun cn => absurd rfl cn)
  exact W.widen (Nat.le_add_right _ _) (Nat.le_add_right _ _) (kk H locs ⟨xx, ts, o0, o1, T, M, _, _, _, _, _, _, _, _, hI, hT, h0, h1, hr2⟩)
theorem lw_street (hp : PS_street Rel) (C : Cx p s m args meth c cL_law 4 RL ret) (hX : va_X b L xs s s.heap) (hb : b < s.heap.size) (hF : NX (PL s) s s.heap z) (hC : NC s) (hi : i + 6 ≤ L) (hL : L ≤ 3072) (hR : rml R cells slots) (hI : LI Rel D cy s H locs q z qm) (hl : lv_has ls 4 [(3, .int (nI i)), (0, .ref b), (1, .ref (q 99)), (2, .ref (mq qm 46))])
    (kk : ∀ (H : Heap) (locs : List Loc), LI Rel D cy s H locs q z qm → W p l e R s m args below meth c H locs (cells + 20) (slots + 2000) Q (F0 m 1421 ls [])) : W p l e R s m args below meth c H locs cells slots Q (F0 m 1128 ls []) := by
  obtain ⟨xx, ts, o0, o1, T, M, I, J, A, B, I1, J1, A1, B1, hI, hT, h0, h1, hr⟩ := hI
  obtain ⟨r, I2, A2, I3, A3, h7, h8, hr2⟩ := hp (xs (i + 1)) (xs (i + 2)) (xs (i + 3)) _ _ _ _ _ _ _ _ _ _ hr
  refine lv_aload_n C.1 C.2.1 dL_law_1128 rfl (lv_at hl 2 rfl) ?_
  refine lw_ld C hX hb hI.2.2.2.1 hl 1 (by decide) (by omega) hL dL_law_1129 dL_law_1130 dL_law_1131 dL_law_1132 dL_law_1133 ?_
  refine lw_ld C hX hb hI.2.2.2.1 hl 2 (by decide) (by omega) hL dL_law_1134 dL_law_1135 dL_law_1136 dL_law_1137 dL_law_1138 ?_
  refine lw_ld C hX hb hI.2.2.2.1 hl 3 (by decide) (by omega) hL dL_law_1139 dL_law_1140 dL_law_1141 dL_law_1142 dL_law_1143 ?_
  refine C_callR C hI (kX7_street l D cy (PL s) q z _ _ _ _ _ _ _ _ _ _ _ _ h7) (rv_X7 hI) ml_L_137 im_X7_street se_X7_street ini_X7 co_X7_street hyX7_street rfl ⟨Nat.le_trans (by decide) hR.1, Nat.le_trans (by decide) hR.2.1, by have := hR.2.2.1; omega, by have := hR.2.2.2; omega⟩ hl.1 rfl (Nat.le_of_ble_eq_true rfl) dL_law_1144 (fun H locs hI => ?_)
  refine lv_aload_n C.1 C.2.1 dL_law_1147 rfl (lv_at hl 3 rfl) ?_
  refine lw_ld C hX hb hI.2.2.2.1 hl 1 (by decide) (by omega) hL dL_law_1148 dL_law_1149 dL_law_1150 dL_law_1151 dL_law_1152 ?_
  refine lw_ld C hX hb hI.2.2.2.1 hl 2 (by decide) (by omega) hL dL_law_1153 dL_law_1154 dL_law_1155 dL_law_1156 dL_law_1157 ?_
  refine lw_ld C hX hb hI.2.2.2.1 hl 3 (by decide) (by omega) hL dL_law_1158 dL_law_1159 dL_law_1160 dL_law_1161 dL_law_1162 ?_
  refine M_callR C hI (kX8_street l D cy (mq qm) _ _ _ _ _ _ _ _ _ _ h8) ml_L_140 im_X8_street se_X8_street ini_X8 co_X8_street hyX8_street rfl ⟨Nat.le_trans (by decide) hR.1, Nat.le_trans (by decide) hR.2.1, by have := hR.2.2.1; omega, by have := hR.2.2.2; omega⟩ hl.1 rfl (Nat.le_of_ble_eq_true rfl) dL_law_1163 (fun H locs hI => ?_)
  refine lv_icmp_eq (tgt := 1421) C.1 C.2.1 dL_law_1166 (by decide) (fun cn => ?_) (fun cn => absurd rfl cn)
  exact W.widen (Nat.le_add_right _ _) (Nat.le_add_right _ _) (kk H locs ⟨xx, ts, o0, o1, T, M, _, _, _, _, _, _, _, _, hI, hT, h0, h1, hr2⟩)
theorem lw_under (hp : PS_under Rel) (C : Cx p s m args meth c cL_law 4 RL ret) (hX : va_X b L xs s s.heap) (hb : b < s.heap.size) (hF : NX (PL s) s s.heap z) (hC : NC s) (hi : i + 6 ≤ L) (hL : L ≤ 3072) (hR : rml R cells slots) (hI : LI Rel D cy s H locs q z qm) (hl : lv_has ls 4 [(3, .int (nI i)), (0, .ref b), (1, .ref (q 99)), (2, .ref (mq qm 46))])
    (kk : ∀ (H : Heap) (locs : List Loc), LI Rel D cy s H locs q z qm → W p l e R s m args below meth c H locs (cells + 20) (slots + 2000) Q (F0 m 1421 ls [])) : W p l e R s m args below meth c H locs cells slots Q (F0 m 1171 ls []) := by
  obtain ⟨xx, ts, o0, o1, T, M, I, J, A, B, I1, J1, A1, B1, hI, hT, h0, h1, hr⟩ := hI
  obtain ⟨r, I2, J2, A2, B2, I3, J3, A3, B3, h7, h8, hr2⟩ := hp (xs (i + 1)) (xs (i + 2)) _ _ _ _ _ _ _ _ _ _ hr
  refine lv_aload_n C.1 C.2.1 dL_law_1171 rfl (lv_at hl 2 rfl) ?_
  refine lw_ld C hX hb hI.2.2.2.1 hl 1 (by decide) (by omega) hL dL_law_1172 dL_law_1173 dL_law_1174 dL_law_1175 dL_law_1176 ?_
  refine lw_ld C hX hb hI.2.2.2.1 hl 2 (by decide) (by omega) hL dL_law_1177 dL_law_1178 dL_law_1179 dL_law_1180 dL_law_1181 ?_
  refine C_callR C hI (kX7_under l D cy (PL s) q z _ _ _ _ _ _ _ _ _ _ _ _ _ h7) (rv_X7 hI) ml_L_141 im_X7_under se_X7_under ini_X7 co_X7_under hyX7_under rfl ⟨Nat.le_trans (by decide) hR.1, Nat.le_trans (by decide) hR.2.1, by have := hR.2.2.1; omega, by have := hR.2.2.2; omega⟩ hl.1 rfl (Nat.le_of_ble_eq_true rfl) dL_law_1182 (fun H locs hI => ?_)
  refine lv_aload_n C.1 C.2.1 dL_law_1185 rfl (lv_at hl 3 rfl) ?_
  refine lw_ld C hX hb hI.2.2.2.1 hl 1 (by decide) (by omega) hL dL_law_1186 dL_law_1187 dL_law_1188 dL_law_1189 dL_law_1190 ?_
  refine lw_ld C hX hb hI.2.2.2.1 hl 2 (by decide) (by omega) hL dL_law_1191 dL_law_1192 dL_law_1193 dL_law_1194 dL_law_1195 ?_
  refine M_callR C hI (kX8_under l D cy (mq qm) _ _ _ _ _ _ _ _ _ _ _ h8) ml_L_144 im_X8_under se_X8_under ini_X8 co_X8_under hyX8_under rfl ⟨Nat.le_trans (by decide) hR.1, Nat.le_trans (by decide) hR.2.1, by have := hR.2.2.1; omega, by have := hR.2.2.2; omega⟩ hl.1 rfl (Nat.le_of_ble_eq_true rfl) dL_law_1196 (fun H locs hI => ?_)
  refine lv_icmp_eq (tgt := 1421) C.1 C.2.1 dL_law_1199 (by decide) (fun cn => ?_) (fun cn => absurd rfl cn)
  exact W.widen (Nat.le_add_right _ _) (Nat.le_add_right _ _) (kk H locs ⟨xx, ts, o0, o1, T, M, _, _, _, _, _, _, _, _, hI, hT, h0, h1, hr2⟩)
theorem lw_row (hp : PS_row Rel) (C : Cx p s m args meth c cL_law 4 RL ret) (hX : va_X b L xs s s.heap) (hb : b < s.heap.size) (hF : NX (PL s) s s.heap z) (hC : NC s) (hi : i + 6 ≤ L) (hL : L ≤ 3072) (hR : rml R cells slots) (hI : LI Rel D cy s H locs q z qm) (hl : lv_has ls 4 [(3, .int (nI i)), (0, .ref b), (1, .ref (q 99)), (2, .ref (mq qm 46))])
    (kk : ∀ (H : Heap) (locs : List Loc), LI Rel D cy s H locs q z qm → W p l e R s m args below meth c H locs (cells + 20) (slots + 2000) Q (F0 m 1421 ls [])) : W p l e R s m args below meth c H locs cells slots Q (F0 m 1204 ls []) := by
  obtain ⟨xx, ts, o0, o1, T, M, I, J, A, B, I1, J1, A1, B1, hI, hT, h0, h1, hr⟩ := hI
  obtain ⟨r, I2, A2, I3, A3, h7, h8, hr2⟩ := hp _ _ _ _ _ _ _ _ _ _ hr
  refine lv_aload_n C.1 C.2.1 dL_law_1204 rfl (lv_at hl 2 rfl) ?_
  refine C_callR C hI (kX7_row l D cy (PL s) q z _ _ _ _ _ _ _ _ _ h7) (rv_X7 hI) ml_L_145 im_X7_row se_X7_row ini_X7 co_X7_row hyX7_row rfl ⟨Nat.le_trans (by decide) hR.1, Nat.le_trans (by decide) hR.2.1, by have := hR.2.2.1; omega, by have := hR.2.2.2; omega⟩ hl.1 rfl (Nat.le_of_ble_eq_true rfl) dL_law_1205 (fun H locs hI => ?_)
  refine lv_aload_n C.1 C.2.1 dL_law_1208 rfl (lv_at hl 3 rfl) ?_
  refine M_callR C hI (kX8_row l D cy (mq qm) _ _ _ _ _ _ _ h8) ml_L_148 im_X8_row se_X8_row ini_X8 co_X8_row hyX8_row rfl ⟨Nat.le_trans (by decide) hR.1, Nat.le_trans (by decide) hR.2.1, by have := hR.2.2.1; omega, by have := hR.2.2.2; omega⟩ hl.1 rfl (Nat.le_of_ble_eq_true rfl) dL_law_1209 (fun H locs hI => ?_)
  refine lv_icmp_eq (tgt := 1421) C.1 C.2.1 dL_law_1212 (by decide) (fun cn => ?_) (fun cn => absurd rfl cn)
  exact W.widen (Nat.le_add_right _ _) (Nat.le_add_right _ _) (kk H locs ⟨xx, ts, o0, o1, T, M, _, _, _, _, _, _, _, _, hI, hT, h0, h1, hr2⟩)
theorem lw_call (hp : PS_call Rel) (C : Cx p s m args meth c cL_law 4 RL ret) (hX : va_X b L xs s s.heap) (hb : b < s.heap.size) (hF : NX (PL s) s s.heap z) (hC : NC s) (hi : i + 6 ≤ L) (hL : L ≤ 3072) (hR : rml R cells slots) (hI : LI Rel D cy s H locs q z qm) (hl : lv_has ls 4 [(3, .int (nI i)), (0, .ref b), (1, .ref (q 99)), (2, .ref (mq qm 46))])
    (kk : ∀ (H : Heap) (locs : List Loc), LI Rel D cy s H locs q z qm → W p l e R s m args below meth c H locs (cells + 20) (slots + 2000) Q (F0 m 1421 ls [])) : W p l e R s m args below meth c H locs cells slots Q (F0 m 1217 ls []) := by
  obtain ⟨xx, ts, o0, o1, T, M, I, J, A, B, I1, J1, A1, B1, hI, hT, h0, h1, hr⟩ := hI
  obtain ⟨r, h7, h8, hr2⟩ := hp (xs (i + 1)) _ _ _ _ _ _ _ _ _ _ hr
  refine lv_aload_n C.1 C.2.1 dL_law_1217 rfl (lv_at hl 2 rfl) ?_
  refine lw_ld C hX hb hI.2.2.2.1 hl 1 (by decide) (by omega) hL dL_law_1218 dL_law_1219 dL_law_1220 dL_law_1221 dL_law_1222 ?_
  refine C_callR C hI (kX7_call l D cy (PL s) q z _ _ _ _ _ _ _ _ h7) (rv_X7 hI) ml_L_149 im_X7_call se_X7_call ini_X7 co_X7_call hyX7_call rfl ⟨Nat.le_trans (by decide) hR.1, Nat.le_trans (by decide) hR.2.1, by have := hR.2.2.1; omega, by have := hR.2.2.2; omega⟩ hl.1 rfl (Nat.le_of_ble_eq_true rfl) dL_law_1223 (fun H locs hI => ?_)
  refine lv_aload_n C.1 C.2.1 dL_law_1226 rfl (lv_at hl 3 rfl) ?_
  refine lw_ld C hX hb hI.2.2.2.1 hl 1 (by decide) (by omega) hL dL_law_1227 dL_law_1228 dL_law_1229 dL_law_1230 dL_law_1231 ?_
  refine M_callR C hI (kX8_call l D cy (mq qm) _ _ _ _ _ _ h8) ml_L_152 im_X8_call se_X8_call ini_X8 co_X8_call hyX8_call rfl ⟨Nat.le_trans (by decide) hR.1, Nat.le_trans (by decide) hR.2.1, by have := hR.2.2.1; omega, by have := hR.2.2.2; omega⟩ hl.1 rfl (Nat.le_of_ble_eq_true rfl) dL_law_1232 (fun H locs hI => ?_)
  refine lv_icmp_eq (tgt := 1421) C.1 C.2.1 dL_law_1235 (by decide) (fun cn => ?_) (fun cn => absurd rfl cn)
  exact W.widen (Nat.le_add_right _ _) (Nat.le_add_right _ _) (kk H locs ⟨xx, ts, o0, o1, T, M, _, _, _, _, _, _, _, _, hI, hT, h0, h1, hr2⟩)
theorem lw_when (hp : PS_when Rel) (C : Cx p s m args meth c cL_law 4 RL ret) (hX : va_X b L xs s s.heap) (hb : b < s.heap.size) (hF : NX (PL s) s s.heap z) (hC : NC s) (hi : i + 6 ≤ L) (hL : L ≤ 3072) (hR : rml R cells slots) (hI : LI Rel D cy s H locs q z qm) (hl : lv_has ls 4 [(3, .int (nI i)), (0, .ref b), (1, .ref (q 99)), (2, .ref (mq qm 46))])
    (kk : ∀ (H : Heap) (locs : List Loc), LI Rel D cy s H locs q z qm → W p l e R s m args below meth c H locs (cells + 20) (slots + 2000) Q (F0 m 1421 ls [])) : W p l e R s m args below meth c H locs cells slots Q (F0 m 1240 ls []) := by
  obtain ⟨xx, ts, o0, o1, T, M, I, J, A, B, I1, J1, A1, B1, hI, hT, h0, h1, hr⟩ := hI
  obtain ⟨r, h7, h8, hr2⟩ := hp _ _ _ _ _ _ _ _ _ _ hr
  refine lv_aload_n C.1 C.2.1 dL_law_1240 rfl (lv_at hl 2 rfl) ?_
  refine C_callR C hI (kX7_when l D cy (PL s) q z _ _ _ _ _ _ _ h7) (rv_X7 hI) ml_L_153 im_X7_when se_X7_when ini_X7 co_X7_when hyX7_when rfl ⟨Nat.le_trans (by decide) hR.1, Nat.le_trans (by decide) hR.2.1, by have := hR.2.2.1; omega, by have := hR.2.2.2; omega⟩ hl.1 rfl (Nat.le_of_ble_eq_true rfl) dL_law_1241 (fun H locs hI => ?_)
  refine lv_aload_n C.1 C.2.1 dL_law_1244 rfl (lv_at hl 3 rfl) ?_
  refine M_callR C hI (kX8_when l D cy (mq qm) _ _ _ _ _ h8) ml_L_156 im_X8_when se_X8_when ini_X8 co_X8_when hyX8_when rfl ⟨Nat.le_trans (by decide) hR.1, Nat.le_trans (by decide) hR.2.1, by have := hR.2.2.1; omega, by have := hR.2.2.2; omega⟩ hl.1 rfl (Nat.le_of_ble_eq_true rfl) dL_law_1245 (fun H locs hI => ?_)
  refine lv_icmp_eq (tgt := 1421) C.1 C.2.1 dL_law_1248 (by decide) (fun cn => ?_) (fun cn => absurd rfl cn)
  exact W.widen (Nat.le_add_right _ _) (Nat.le_add_right _ _) (kk H locs ⟨xx, ts, o0, o1, T, M, _, _, _, _, _, _, _, _, hI, hT, h0, h1, hr2⟩)
theorem lw_tower (hp : PS_tower Rel) (C : Cx p s m args meth c cL_law 4 RL ret) (hX : va_X b L xs s s.heap) (hb : b < s.heap.size) (hF : NX (PL s) s s.heap z) (hC : NC s) (hi : i + 6 ≤ L) (hL : L ≤ 3072) (hR : rml R cells slots) (hI : LI Rel D cy s H locs q z qm) (hl : lv_has ls 4 [(3, .int (nI i)), (0, .ref b), (1, .ref (q 99)), (2, .ref (mq qm 46))])
    (kk : ∀ (H : Heap) (locs : List Loc), LI Rel D cy s H locs q z qm → W p l e R s m args below meth c H locs (cells + 20) (slots + 2000) Q (F0 m 1421 ls [])) : W p l e R s m args below meth c H locs cells slots Q (F0 m 1253 ls []) := by
  obtain ⟨xx, ts, o0, o1, T, M, I, J, A, B, I1, J1, A1, B1, hI, hT, h0, h1, hr⟩ := hI
  obtain ⟨r, I2, A2, I3, A3, h7, h8, hr2⟩ := hp (xs (i + 1)) (xs (i + 2)) (xs (i + 3)) (xs (i + 4)) (xs (i + 5)) _ _ _ _ _ _ _ _ _ _ hr
  refine lv_aload_n C.1 C.2.1 dL_law_1253 rfl (lv_at hl 2 rfl) ?_
  refine lw_ld C hX hb hI.2.2.2.1 hl 1 (by decide) (by omega) hL dL_law_1254 dL_law_1255 dL_law_1256 dL_law_1257 dL_law_1258 ?_
  refine lw_ld C hX hb hI.2.2.2.1 hl 2 (by decide) (by omega) hL dL_law_1259 dL_law_1260 dL_law_1261 dL_law_1262 dL_law_1263 ?_
  refine lw_ld C hX hb hI.2.2.2.1 hl 3 (by decide) (by omega) hL dL_law_1264 dL_law_1265 dL_law_1266 dL_law_1267 dL_law_1268 ?_
  refine lw_ld C hX hb hI.2.2.2.1 hl 4 (by decide) (by omega) hL dL_law_1269 dL_law_1270 dL_law_1271 dL_law_1272 dL_law_1273 ?_
  refine lw_ld C hX hb hI.2.2.2.1 hl 5 (by decide) (by omega) hL dL_law_1274 dL_law_1275 dL_law_1276 dL_law_1277 dL_law_1278 ?_
  refine C_callR C hI (kX7_tower l D cy (PL s) q z _ _ _ _ _ _ _ _ _ _ _ _ _ _ h7) (rv_X7 hI) ml_L_157 im_X7_tower se_X7_tower ini_X7 co_X7_tower hyX7_tower rfl ⟨Nat.le_trans (by decide) hR.1, Nat.le_trans (by decide) hR.2.1, by have := hR.2.2.1; omega, by have := hR.2.2.2; omega⟩ hl.1 rfl (Nat.le_of_ble_eq_true rfl) dL_law_1279 (fun H locs hI => ?_)
  refine lv_aload_n C.1 C.2.1 dL_law_1282 rfl (lv_at hl 3 rfl) ?_
  refine lw_ld C hX hb hI.2.2.2.1 hl 1 (by decide) (by omega) hL dL_law_1283 dL_law_1284 dL_law_1285 dL_law_1286 dL_law_1287 ?_
  refine lw_ld C hX hb hI.2.2.2.1 hl 2 (by decide) (by omega) hL dL_law_1288 dL_law_1289 dL_law_1290 dL_law_1291 dL_law_1292 ?_
  refine lw_ld C hX hb hI.2.2.2.1 hl 3 (by decide) (by omega) hL dL_law_1293 dL_law_1294 dL_law_1295 dL_law_1296 dL_law_1297 ?_
  refine lw_ld C hX hb hI.2.2.2.1 hl 4 (by decide) (by omega) hL dL_law_1298 dL_law_1299 dL_law_1300 dL_law_1301 dL_law_1302 ?_
  refine lw_ld C hX hb hI.2.2.2.1 hl 5 (by decide) (by omega) hL dL_law_1303 dL_law_1304 dL_law_1305 dL_law_1306 dL_law_1307 ?_
  refine M_callR C hI (kX8_tower l D cy (mq qm) _ _ _ _ _ _ _ _ _ _ _ _ h8) ml_L_160 im_X8_tower se_X8_tower ini_X8 co_X8_tower hyX8_tower rfl ⟨Nat.le_trans (by decide) hR.1, Nat.le_trans (by decide) hR.2.1, by have := hR.2.2.1; omega, by have := hR.2.2.2; omega⟩ hl.1 rfl (Nat.le_of_ble_eq_true rfl) dL_law_1308 (fun H locs hI => ?_)
  refine lv_icmp_eq (tgt := 1421) C.1 C.2.1 dL_law_1311 (by decide) (fun cn => ?_) (fun cn => absurd rfl cn)
  exact W.widen (Nat.le_add_right _ _) (Nat.le_add_right _ _) (kk H locs ⟨xx, ts, o0, o1, T, M, _, _, _, _, _, _, _, _, hI, hT, h0, h1, hr2⟩)
theorem lw_count (hp : PS_count Rel) (C : Cx p s m args meth c cL_law 4 RL ret) (hX : va_X b L xs s s.heap) (hb : b < s.heap.size) (hF : NX (PL s) s s.heap z) (hC : NC s) (hi : i + 6 ≤ L) (hL : L ≤ 3072) (hR : rml R cells slots) (hI : LI Rel D cy s H locs q z qm) (hl : lv_has ls 4 [(3, .int (nI i)), (0, .ref b), (1, .ref (q 99)), (2, .ref (mq qm 46))])
    (kk : ∀ (H : Heap) (locs : List Loc), LI Rel D cy s H locs q z qm → W p l e R s m args below meth c H locs (cells + 20) (slots + 2000) Q (F0 m 1421 ls [])) : W p l e R s m args below meth c H locs cells slots Q (F0 m 1385 ls []) := by
  obtain ⟨xx, ts, o0, o1, T, M, I, J, A, B, I1, J1, A1, B1, hI, hT, h0, h1, hr⟩ := hI
  obtain ⟨r, h7, h8, hr2⟩ := hp (xs (i + 1)) _ _ _ _ _ _ _ _ _ _ hr
  refine lv_aload_n C.1 C.2.1 dL_law_1385 rfl (lv_at hl 2 rfl) ?_
  refine lw_ld C hX hb hI.2.2.2.1 hl 1 (by decide) (by omega) hL dL_law_1386 dL_law_1387 dL_law_1388 dL_law_1389 dL_law_1390 ?_
  refine C_callR C hI (kX7_count l D cy (PL s) q z _ _ _ _ _ _ _ _ h7) (rv_X7 hI) ml_L_173 im_X7_count se_X7_count ini_X7 co_X7_count hyX7_count rfl ⟨Nat.le_trans (by decide) hR.1, Nat.le_trans (by decide) hR.2.1, by have := hR.2.2.1; omega, by have := hR.2.2.2; omega⟩ hl.1 rfl (Nat.le_of_ble_eq_true rfl) dL_law_1391 (fun H locs hI => ?_)
  refine lv_aload_n C.1 C.2.1 dL_law_1394 rfl (lv_at hl 3 rfl) ?_
  refine lw_ld C hX hb hI.2.2.2.1 hl 1 (by decide) (by omega) hL dL_law_1395 dL_law_1396 dL_law_1397 dL_law_1398 dL_law_1399 ?_
  refine M_callR C hI (kX8_count l D cy (mq qm) _ _ _ _ _ _ h8) ml_L_176 im_X8_count se_X8_count ini_X8 co_X8_count hyX8_count rfl ⟨Nat.le_trans (by decide) hR.1, Nat.le_trans (by decide) hR.2.1, by have := hR.2.2.1; omega, by have := hR.2.2.2; omega⟩ hl.1 rfl (Nat.le_of_ble_eq_true rfl) dL_law_1400 (fun H locs hI => ?_)
  refine lv_icmp_eq (tgt := 1421) C.1 C.2.1 dL_law_1403 (by decide) (fun cn => ?_) (fun cn => absurd rfl cn)
  exact W.widen (Nat.le_add_right _ _) (Nat.le_add_right _ _) (kk H locs ⟨xx, ts, o0, o1, T, M, _, _, _, _, _, _, _, _, hI, hT, h0, h1, hr2⟩)
theorem lw_status (hp : PS_status Rel) (C : Cx p s m args meth c cL_law 4 RL ret) (hX : va_X b L xs s s.heap) (hb : b < s.heap.size) (hF : NX (PL s) s s.heap z) (hC : NC s) (hi : i + 6 ≤ L) (hL : L ≤ 3072) (hR : rml R cells slots) (hI : LI Rel D cy s H locs q z qm) (hl : lv_has ls 4 [(3, .int (nI i)), (0, .ref b), (1, .ref (q 99)), (2, .ref (mq qm 46))])
    (kk : ∀ (H : Heap) (locs : List Loc), LI Rel D cy s H locs q z qm → W p l e R s m args below meth c H locs (cells + 20) (slots + 2000) Q (F0 m 1421 ls [])) : W p l e R s m args below meth c H locs cells slots Q (F0 m 1408 ls []) := by
  obtain ⟨xx, ts, o0, o1, T, M, I, J, A, B, I1, J1, A1, B1, hI, hT, h0, h1, hr⟩ := hI
  obtain ⟨r, h7, h8, hr2⟩ := hp _ _ _ _ _ _ _ _ _ _ hr
  refine lv_aload_n C.1 C.2.1 dL_law_1408 rfl (lv_at hl 2 rfl) ?_
  refine C_callR C hI (kX7_status l D cy (PL s) q z _ _ _ _ _ _ _ h7) (rv_X7 hI) ml_L_177 im_X7_status se_X7_status ini_X7 co_X7_status hyX7_status rfl ⟨Nat.le_trans (by decide) hR.1, Nat.le_trans (by decide) hR.2.1, by have := hR.2.2.1; omega, by have := hR.2.2.2; omega⟩ hl.1 rfl (Nat.le_of_ble_eq_true rfl) dL_law_1409 (fun H locs hI => ?_)
  refine lv_aload_n C.1 C.2.1 dL_law_1412 rfl (lv_at hl 3 rfl) ?_
  refine M_callR C hI (kX8_status l D cy (mq qm) _ _ _ _ _ h8) ml_L_180 im_X8_status se_X8_status ini_X8 co_X8_status hyX8_status rfl ⟨Nat.le_trans (by decide) hR.1, Nat.le_trans (by decide) hR.2.1, by have := hR.2.2.1; omega, by have := hR.2.2.2; omega⟩ hl.1 rfl (Nat.le_of_ble_eq_true rfl) dL_law_1413 (fun H locs hI => ?_)
  refine lv_icmp_eq (tgt := 1421) C.1 C.2.1 dL_law_1416 (by decide) (fun cn => ?_) (fun cn => absurd rfl cn)
  exact W.widen (Nat.le_add_right _ _) (Nat.le_add_right _ _) (kk H locs ⟨xx, ts, o0, o1, T, M, _, _, _, _, _, _, _, _, hI, hT, h0, h1, hr2⟩)
end LOPS
