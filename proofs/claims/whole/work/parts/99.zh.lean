section ZH
variable {I I1 : Nat → Int32} {J J1 : Nat → Int64} {A A1 : Nat → Nat → Int32} {B B1 : Nat → Nat → Int64} {T : Nat → Option Txt} {M : Nat → Option Img} {e : Nat → Nat → Int} {j : Nat} {X : Txt → Int32 → (Nat → Int32) → (Nat → Int32) → Prop}
theorem dF_2 {t f : Nat} (he : EB e) (ht : t < 6) (hf : f < 4) : 128000 ≤ dF e (fun _ => false) t f := by
  have h0 := kF_2 he ht (show 0 < 4 by decide)
  have h1 := kF_2 he ht (show 1 < 4 by decide)
  have h2 := kF_2 he ht (show 2 < 4 by decide)
  have h3 := kF_2 he ht (show 3 < 4 by decide)
  have hk := kF_2 he ht hf
  have a : (2 : Int) * 2 ≤ kF e (fun _ => false) t 0 * kF e (fun _ => false) t 2 := Int.mul_le_mul h0 h2 (by decide) (by omega)
  have b : (2 : Int) * 2 ≤ kF e (fun _ => false) t 1 * kF e (fun _ => false) t 3 := Int.mul_le_mul h1 h3 (by decide) (by omega)
  have c : (4 : Int) * 4 ≤ kF e (fun _ => false) t 0 * kF e (fun _ => false) t 2 * (kF e (fun _ => false) t 1 + kF e (fun _ => false) t 3) := Int.mul_le_mul a (by omega) (by decide) (by omega)
  have d : (4 : Int) * 4 ≤ kF e (fun _ => false) t 1 * kF e (fun _ => false) t 3 * (kF e (fun _ => false) t 0 + kF e (fun _ => false) t 2) := Int.mul_le_mul b (by omega) (by decide) (by omega)
  have w : 32 ≤ wF e (fun _ => false) t := by unfold wF; omega
  have z : (2000 : Int) * 64 ≤ dF e (fun _ => false) t f := Int.mul_le_mul (show (2000 : Int) ≤ 1000 * kF e (fun _ => false) t f by omega) (show (64 : Int) ≤ 2 * wF e (fun _ => false) t by omega) (by decide) (by omega)
  omega
/-- the load of a joint, nothing gone, as a number -/
def ldF (e : Nat → Nat → Int) (j : Nat) : Int64 := lI ((pF e (fun _ => false) j).tdiv (dF e (fun _ => false) (j / 8) (j / 2 % 4) * 1000))
theorem ld_b (he : EB e) (hj : j < 48) : (ldF e j).toInt32.toInt64 = ldF e j := by
  have hp := pF_b (g := fun _ => false) he hj
  have hd := dF_2 he (show j / 8 < 6 by omega) (show j / 2 % 4 < 4 by omega)
  have hq : ((pF e (fun _ => false) j).tdiv (dF e (fun _ => false) (j / 8) (j / 2 % 4) * 1000)).natAbs ≤ 177147000 := by
    rw [Int.natAbs_tdiv]
    exact Nat.le_trans (Nat.div_le_div hp (show 128000000 ≤ (dF e (fun _ => false) (j / 8) (j / 2 % 4) * 1000).natAbs by omega) (by decide)) (by decide)
  unfold ldF
  generalize (pF e (fun _ => false) j).tdiv (dF e (fun _ => false) (j / 8) (j / 2 % 4) * 1000) = q at hq
  apply Int64.toInt_inj.mp
  rw [Int32.toInt_toInt64, Int64.toInt_toInt32, l_ti (by omega)]
  unfold Int.bmod
  dsimp only
  split <;> omega
theorem ld_7 (hb : BS e I J A) (hj : j < 48) : ∃ A2 B2, sX1_stands (nI (j / 8)) 0 I J A B = some (1, A2, B2) ∧ (∀ a, ¬ a = 64 → A2 a = A a) ∧ sX1_loadOf (nI j) I J A2 B2 = some (ldF e j).toInt32 := by
  have he := hb.1
  have hok : okF e (fun _ => false) (j / 8) = true := ok_0 he (by omega)
  obtain ⟨A2, B2, r1, r2, r3, r4⟩ := sd_7 (g := fun _ => false) (B := B) (gm := 0) hb (show j / 8 < 6 by omega) (fun i _ => bb_0 i)
  rw [hok, if_pos rfl] at r1
  refine ⟨A2, B2, r1, r2, ?_⟩
  have hd := dF_1 (g := fun _ => false) he hj rfl hok
  have hdb : (dF e (fun _ => false) (j / 8) (j / 2 % 4)).natAbs ≤ 839808000 := dF_b he (by omega) (by omega)
  have hpb := pF_b (g := fun _ => false) he hj
  obtain ⟨f1, f2, f3⟩ := r4 hok (j / 2 % 4) (by omega)
  unfold sX1_loadOf
  rw [fc_1 hj]
  dsimp only [gv, Option.bind_some]
  rw [ix_n (show j / 2 % 4 < 2 ^ 31 by omega), f3, ck, if_pos (inB_n (by omega) (by decide)), if_neg (fun q => by have := (l_c0 (by omega)).mp q; omega)]
  rw [pl_7 hj (fun j h => by rw [r2 10 (by decide)]; exact hb.2.1 j h) f1 f2]
  dsimp only [Option.bind_some]
  rw [show (1000 : Int64) = lI 1000 by decide +kernel, ← l_mul, ck, if_pos (l_nz (by omega) (by omega)), l_td (by omega) (by omega) (by omega)]
  rfl
def z12 (A : Nat → Nat → Int32) (j : Nat) : Int32 := if A 11 j = 1 then (if A 12 j ≤ 0 then 0 else 1) else 0
theorem fj_7 {x3 : Int32} (hj : j < 48) : ∃ A2, sX0_faceJoint (nI j) x3 I J A B = some A2 ∧ (∀ a, ¬ a = 96 → A2 a = A a) ∧ A2 96 = upd (upd (upd (upd (upd (upd (upd (upd (upd (fillA 14 0 (A 96)) 1 (A 14 (j / 8))) 2 (nI (j / 8))) 3 (nI (j / 2 % 4))) 4 x3) 5 (hdf A j)) 6 (A 15 3)) 10 (1 - A 11 j)) 11 (A 11 j)) 12 (z12 A j) := by
  have e8 : nI j / (8 : Int32) = nI (j / 8) := pk_div (by omega) (by decide) (by decide)
  have hld : ∀ A : Nat → Nat → Int32, sX4_holdOf (nI j) I J A B = some (hdf A j) := fun A => hold_7 hj
  unfold sX0_faceJoint
  dsimp only [gv]
  rw [e8, ck, if_pos (inB_n (by omega) (by decide)), fc_1 hj]
  dsimp only [Option.bind_some]
  rw [hld]
  dsimp only [Option.bind_some]
  rw [ck, if_pos (inB_n hj (by decide)), ck, if_pos (inB_n hj (by decide)), ck, if_pos (inB_n hj (by decide)), ck, if_pos (inB_n hj (by decide)), ix_n (show j < 2 ^ 31 by omega), ix_n (show j / 8 < 2 ^ 31 by omega)]
  simp only [va_up_self, va_up_ne _ _ (show ¬ 11 = 96 by decide), va_up_ne _ _ (show ¬ 12 = 96 by decide), va_up_ne _ _ (show ¬ 14 = 96 by decide), va_up_ne _ _ (show ¬ 15 = 96 by decide)]
  have hz : ∀ f : Nat → Int32, hdf (va_up A 96 f) j = hdf A j := fun f => rfl
  have hz2 : ∀ (B : Nat → Nat → Int32) (f : Nat → Int32), hdf (va_up B 96 f) j = hdf B j := fun B f => rfl
  simp only [hz2]
  have fr : ∀ (f1 f2 f3 f4 f5 f6 f7 f8 f9 f10 : Nat → Int32) (a : Nat), ¬ a = 96 → va_up (va_up (va_up (va_up (va_up (va_up (va_up (va_up (va_up (va_up A 96 f1) 96 f2) 96 f3) 96 f4) 96 f5) 96 f6) 96 f7) 96 f8) 96 f9) 96 f10 a = A a := fun f1 f2 f3 f4 f5 f6 f7 f8 f9 f10 a ha => by simp only [va_up_ne _ _ ha]
  unfold z12
  by_cases c1 : A 11 j = 1
  · rw [if_pos c1, if_pos c1]
    by_cases c2 : A 12 j ≤ 0
    · rw [if_pos c2, if_pos c2]
      exact ⟨_, rfl, fun a ha => fr _ _ _ _ _ _ _ _ _ _ a ha, va_up_self _ _ _⟩
    · rw [if_neg c2, if_neg c2]
      exact ⟨_, rfl, fun a ha => fr _ _ _ _ _ _ _ _ _ _ a ha, va_up_self _ _ _⟩
  · rw [if_neg c1, if_neg c1]
    exact ⟨_, rfl, fun a ha => fr _ _ _ _ _ _ _ _ _ _ a ha, va_up_self _ _ _⟩
end ZH
