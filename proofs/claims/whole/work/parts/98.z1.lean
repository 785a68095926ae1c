section Z1
variable {G : Nat → Nat → Int32 → Prop}
theorem re_r {I : Nat → Int32} {J : Nat → Int64} {A : Nat → Nat → Int32} {B : Nat → Nat → Int64} {T T' : Nat → Option Txt} {M : Nat → Option Img} {I1 : Nat → Int32} {J1 : Nat → Int64} {A1 : Nat → Nat → Int32} {B1 : Nat → Nat → Int64} {I2 I3 : Nat → Int32} {A2 A3 : Nat → Nat → Int32} (h : RE XX G I J A B T M I1 J1 A1 B1) (hI : ∀ x, x < 80 → ¬ x = 7 → ¬ x = 8 → ¬ x = 9 → ¬ x = 23 → I2 x = I x) (h7 : I2 7 = 0) (hA : ∀ b, b < 80 → A2 b = A b) (hI3 : ∀ x, ¬ x = 0 → ¬ x = 20 → ¬ x = 21 → ¬ x = 25 → ¬ x = 26 → ¬ x = 27 → ¬ x = 28 → I3 x = I1 x) (h20 : I3 20 = 0) (hA3 : ∀ b, ¬ b = 1 → ¬ b = 22 → ¬ b = 23 → ¬ b = 24 → A3 b = A1 b) (h8 : I2 8 = I3 21) (h9 : I2 9 = I3 0) (hS : SR XX G I2 A2 T' (A3 1)) : RE XX G I2 J A2 B T' M I3 J1 A3 B1 := by
  obtain ⟨-, hM, -, hw, hni, -, -, h17⟩ := h
  refine ⟨hS, ?_, ⟨h7.trans h20.symm, 0, by omega, h7, fun j hj => by omega⟩, ?_, ?_, h8, h9, ?_⟩
  · rw [hA3 2 (by decide) (by decide) (by decide) (by decide), hA3 3 (by decide) (by decide) (by decide) (by decide)]
    exact hM
  · rw [hI 73 (by decide) (by decide) (by decide) (by decide) (by decide), hI3 41 (by decide) (by decide) (by decide) (by decide) (by decide) (by decide) (by decide), hA 72 (by decide), hA3 40 (by decide) (by decide) (by decide) (by decide)]
    exact hw
  · rw [hI 75 (by decide) (by decide) (by decide) (by decide) (by decide), hI3 45 (by decide) (by decide) (by decide) (by decide) (by decide) (by decide) (by decide), hA 74 (by decide), hA3 44 (by decide) (by decide) (by decide) (by decide)]
    exact hni
  · rw [hA3 17 (by decide) (by decide) (by decide) (by decide)]
    exact h17
theorem ps_rule : PS_rule (RE XX G) := by
  intro I J A B T M I1 J1 A1 B1 hr
  have hr0 := hr
  obtain ⟨hS, hM, ⟨t1, z, hz, t2, t3⟩, hw, hni, h8, h9, h17⟩ := hr
  have hS0 := hS
  obtain ⟨-, -, -, -, -, -, -, -, e23, k, hk, ek, -⟩ := hS0
  have eK : A1 1 1634 = nI k := e23.symm.trans ek
  have x1634 : ix (1634 : Int32) = 1634 := rfl
  unfold sX7_rule sX8_rule sX7_takeTape
  dsimp only [gv, Option.bind_some]
  have hI23 : (upd I 7 0) 23 = nI k := (upd_n _ _ (by decide)).trans ek
  have hK34 : A1 1 (ix 1634) = nI k := eK
  by_cases c : k < 8
  · rw [if_pos (show (upd I 7 0) 23 < 8 by rw [hI23, show (8 : Int32) = nI 8 from rfl, nn_lt (by omega) (by decide)]; exact c), if_neg (show ¬ A1 1 (ix 1634) = 8 by rw [hK34, show (8 : Int32) = nI 8 from rfl, nI_eq (by omega) (by decide)]; omega), t2]
    have htp : TP (fun j => (A 6 j).toInt.toNat) z A A1 := ⟨hz, fun i hi => by
      obtain ⟨u1, u2, u3⟩ := t3 i hi
      have e : A 6 i = nI (A 6 i).toInt.toNat := Int32.toInt_inj.mp (by rw [nI_toInt (by omega)]; omega)
      exact ⟨show (A 6 i).toInt.toNat < 256 by omega, e, by rw [← e]; exact u1⟩⟩
    obtain ⟨r, I2, A2, I3, A3, r1, r2, r3, r4, r5, r6, r7, r8⟩ := rd_x (I := upd I 7 0) (J := J) (J1 := J1) (B := B) (B1 := B1) htp h17 (t1.symm.trans t2)
    rw [r1, r2]
    dsimp only [Option.bind_some]
    have f7 : I2 7 = 0 := (r3 7 (by decide)).trans (upd_s _ _ _)
    have f0 : ∀ x, x < 80 → ¬ x = 7 → I2 x = I x := fun x h1 h2 => (r3 x h1).trans (upd_n _ _ h2)
    rcases r8 with ⟨rfl, q1, n, c', s, q2, q3, q4, q5, q6, q7, q8, q9⟩ | ⟨rfl, q⟩
    · rw [if_neg (show ¬ (1 : Int32) = 0 by decide), if_neg (show ¬ (1 : Int32) = 0 by decide), upd_n _ _ (show ¬ 23 = 8 by decide), f0 23 (by decide) (by decide), ek, ck, if_pos (inB_n c (by decide)), nI_1, r6 1 (by decide) (by decide) (by decide), hK34, show (1639 : Int32) + nI k = nI (1639 + k) by rw [show (1639 : Int32) = nI 1639 from rfl, nI_add], ck, if_pos (inB_n (by omega) (by decide)), ix_n (by omega), q3]
      unfold sX7_accept sX8_good
      dsimp only [gv, Option.bind_some]
      obtain ⟨A4, l1, l2, l3, l4⟩ := ru_64 (I1 := I3) (J1 := J1) (B1 := B1) c q2 q3 FU 0 (va_up A3 1 (upd (A1 1) (1639 + k) (nI n))) (by unfold FU; omega) (by omega)
      have l1 : lX8_rule_64 FU (nI k) 0 I3 J1 (va_up A3 1 (upd (A1 1) (1639 + k) (nI n))) B1 = some A4 := l1
      have e4 : A4 1 1634 = nI k := by rw [l4 _ (by omega) (by omega), va_up_self, upd_n _ _ (by omega)]; exact eK
      rw [l1]
      dsimp only [Option.bind_some]
      rw [x1634, e4, nI_1, upd_s, show nI (k + 1) - 1 = nI k by rw [show (1 : Int32) = nI 1 from rfl, pk_sub (by omega), Nat.add_sub_cancel]]
      refine ⟨nI k, 1, _, A2, _, _, rfl, rfl, fun h => absurd rfl h, fun _ fb fc hb hcc => ?_⟩
      rw [upd_n _ _ (show ¬ 88 = 9 by decide), upd_n _ _ (show ¬ 88 = 23 by decide), upd_n _ _ (show ¬ 88 = 8 by decide), q6, show nI (c' + 1) * 4 = nI (4 * (c' + 1)) by rw [show (4 : Int32) = nI 4 from rfl, pk_mul, Nat.mul_comm], ix_n (by omega)] at hb
      rw [upd_n _ _ (show ¬ 90 = 9 by decide), upd_n _ _ (show ¬ 90 = 23 by decide), upd_n _ _ (show ¬ 90 = 8 by decide), q7, ix_n (by omega)] at hcc
      rw [upd_n _ _ (show ¬ 88 = 9 by decide), upd_n _ _ (show ¬ 88 = 23 by decide), upd_n _ _ (show ¬ 88 = 8 by decide), q6, show nI (c' + 1) * 4 = nI (4 * (c' + 1)) by rw [show (4 : Int32) = nI 4 from rfl, pk_mul, Nat.mul_comm], ix_n (show 4 * (c' + 1) < 2 ^ 31 by omega), upd_n _ _ (show ¬ 90 = 9 by decide), upd_n _ _ (show ¬ 90 = 23 by decide), upd_n _ _ (show ¬ 90 = 8 by decide), q7, ix_n (show 2 * s < 2 ^ 31 by omega), upd_n _ _ (show ¬ 23 = 9 by decide), upd_s, show nI (k + 1) - 1 = nI k by rw [show (1 : Int32) = nI 1 from rfl, pk_sub (by omega), Nat.add_sub_cancel], ix_n (show k < 2 ^ 31 by omega)]
      refine re_r hr0 (fun x h1 h2 h3 h4 h5 => by rw [upd_n _ _ h4, upd_n _ _ h5, upd_n _ _ h3, f0 x h1 h2]) (by rw [upd_n _ _ (by decide), upd_n _ _ (by decide), upd_n _ _ (by decide)]; exact f7) r4 (fun x h0 h1 h2 h3 h4 h5 h6 => by rw [upd_n _ _ h0]; exact r5 x h1 h2 h3 h4 h5 h6) (by rw [upd_n _ _ (by decide)]; exact r7) (fun b h1 h2 h3 h4 => by rw [va_up_ne _ _ h1, l2 b h1, va_up_ne _ _ h1]; exact r6 b h2 h3 h4) (by rw [upd_n _ _ (by decide), upd_n _ _ (by decide), upd_s, upd_n _ _ (by decide)]; exact q1.symm) (by rw [upd_s, upd_s]) ?_
      refine SR_txt xe_x c ek (fun x h1 h2 h3 => by rw [upd_n _ _ (by omega), upd_n _ _ h3, upd_n _ _ (by omega), f0 x (by omega) (by omega)]) (by rw [upd_n _ _ (by decide), upd_s]) (fun b h1 h2 j => by rw [r4 b (by omega)]) (by rw [va_up_self, upd_s]) (fun j h1 h2 h3 h4 => by rw [va_up_self, upd_n _ _ h1, l4 j (by omega) (by omega), va_up_self, upd_n _ _ h2]) ?_ hS
      refine ⟨n, c', s, A3 22, A3 23, q2, ?_, fun i hi => ?_, q4, q5, rfl, rfl, q8, q9 _ _ hcc hb⟩
      · rw [va_up_self, upd_n _ _ (by omega), l4 _ (by omega) (by omega), va_up_self, upd_s]
      · obtain ⟨w1, w2⟩ := l3 i (by omega) hi
        dsimp only
        rw [va_up_self, upd_n _ _ (by omega), upd_n _ _ (by omega), w1, w2, va_up_ne _ _ (by decide), va_up_ne _ _ (by decide)]
        exact ⟨rfl, rfl⟩
    · rw [if_pos (show (0 : Int32) = 0 from rfl), if_pos (show (0 : Int32) = 0 from rfl)]
      unfold sX7_refuse sX8_refuses
      dsimp only [gv, Option.bind_some]
      refine ⟨-6, 0, _, A2, _, A3, rfl, rfl, fun _ => ?_, fun h => absurd h (by decide)⟩
      refine re_r hr0 (fun x h1 h2 h3 h4 h5 => by rw [upd_n _ _ h4, upd_n _ _ h3, f0 x h1 h2]) (by rw [upd_n _ _ (by decide), upd_n _ _ (by decide)]; exact f7) r4 (fun x h0 h1 h2 h3 h4 h5 h6 => by rw [upd_n _ _ h0]; exact r5 x h1 h2 h3 h4 h5 h6) (by rw [upd_n _ _ (by decide)]; exact r7) (fun b h1 h2 h3 h4 => r6 b h2 h3 h4) (by rw [upd_n _ _ (by decide), upd_s, upd_n _ _ (by decide)]; exact q) (by rw [upd_s, upd_s]) ?_
      exact SR_ext xe_x (fun x h1 h2 => by rw [upd_n _ _ (by omega), upd_n _ _ (by omega), f0 x (by omega) (by omega)]) (fun b h1 h2 j => by rw [r4 b (by omega)]) (fun j _ => by rw [r6 1 (by decide) (by decide) (by decide)]) hS
  · have e : k = 8 := by omega
    subst e
    rw [if_neg (show ¬ (upd I 7 0) 23 < 8 by rw [hI23]; decide), if_pos (show A1 1 (ix 1634) = 8 from hK34)]
    unfold sX7_refuse sX8_refuses
    dsimp only [gv, Option.bind_some]
    refine ⟨-5, 2, _, A, _, A1, rfl, rfl, fun _ => ?_, fun h => absurd h (by decide)⟩
    refine re_r hr0 (fun x h1 h2 h3 h4 h5 => by rw [upd_n _ _ h4, upd_n _ _ h2]) (by rw [upd_n _ _ (by decide), upd_s]) (fun _ _ => rfl) (fun x h0 h1 h2 h3 h4 h5 h6 => by rw [upd_n _ _ h0, upd_n _ _ h1]) (by rw [upd_n _ _ (by decide), upd_s]) (fun _ _ _ _ _ => rfl) (by rw [upd_n _ _ (by decide), upd_n _ _ (by decide), upd_n _ _ (by decide), upd_n _ _ (by decide)]; exact h8) (by rw [upd_s, upd_s]) ?_
    exact SR_ext xe_x (fun x h1 h2 => by rw [upd_n _ _ (by omega), upd_n _ _ (by omega)]) (fun _ _ _ _ => rfl) (fun _ _ => rfl) hS
end Z1
