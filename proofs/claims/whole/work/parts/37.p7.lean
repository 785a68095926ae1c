
section P9
variable {X : Txt → Int32 → (Nat → Int32) → (Nat → Int32) → Prop} {G : Nat → Nat → Int32 → Prop} {I : Nat → Int32} {A : Nat → Nat → Int32} {T : Nat → Option Txt} {K : Nat → Int32}
theorem SR_15 (hX : XE X) (h : SR X G I A T K) {k : Nat} (hk : k < 9) {v : Int32} (hv : bt v (sv_0 k).toInt (sv_1 k).toInt) (hle : upd (A 15) k v 1 ≤ upd (A 15) k v 0) : SR X G I (va_up A 15 (upd (A 15) k v)) T (upd K (156 + k) v) := by
  obtain ⟨h10, h11, h12, h13, h14, ⟨h15, h15b⟩, h16, htb, h23, kt, hkt, ek, ht⟩ := h
  have nA : ∀ a, ¬ a = 15 → va_up A 15 (upd (A 15) k v) a = A a := fun a h => va_up_ne A _ h
  have nK : ∀ j, ¬ j = 156 + k → upd K (156 + k) v j = K j := fun j h => upd_n K v h
  refine ⟨fun j hj => ?_, fun j hj => ?_, fun j hj => ?_, fun j hj => ?_, fun j hj => ?_, ⟨fun j hj => ?_, ?_⟩, fun j hj => ?_, fun n hn => ?_, ?_, kt, hkt, ek, fun j hj => ?_⟩
  · rw [nA 10 (by decide), nK _ (by omega)]; exact h10 j hj
  · rw [nA 11 (by decide), nK _ (by omega)]; exact h11 j hj
  · rw [nA 12 (by decide), nK _ (by omega)]; exact h12 j hj
  · rw [nA 13 (by decide), nK _ (by omega)]; exact h13 j hj
  · rw [nA 14 (by decide), nK _ (by omega)]; exact h14 j hj
  · rw [va_up_self]
    by_cases e : j = k
    · subst e; rw [upd_s, upd_s]; exact ⟨rfl, hv⟩
    · rw [upd_n _ _ e, nK _ (by omega)]; exact h15 j hj
  · rw [va_up_self]; exact hle
  · rw [nA 16 (by decide), nK _ (by omega)]; exact h16 j hj
  · obtain ⟨e1, e2, k2, hk2, e3, e4⟩ := htb n hn
    have hr := tb_r n hn
    have := Nat.mul_le_mul_right (tW n) hk2
    refine ⟨e1, by rw [nK _ (by omega)]; exact e2, k2, hk2, e3, fun j hj => ?_⟩
    rw [nA _ (by omega), nK _ (by omega)]
    exact e4 j hj
  · rw [nK _ (by omega)]; exact h23
  · obtain ⟨t, e1, e2⟩ := ht j hj
    refine ⟨t, e1, ?_⟩
    rw [nK _ (by omega)]
    exact hX _ _ _ _ _ _ (fun i hi => nK _ (by omega)) (fun i hi => nK _ (by omega)) e2
end P9
