section P19
variable {X : Txt → Int32 → (Nat → Int32) → (Nat → Int32) → Prop}
/-- both as they are made -/
theorem re_0 : RE X GG CI0 CJ0 CA0 CB0 (fun _ => none) (fun _ => none) MI0 (fun _ => 0) MA0 (fun _ _ => 0) := by
  refine ⟨⟨by decide +kernel, by decide +kernel, by decide +kernel, by decide +kernel, by decide +kernel, ⟨by decide +kernel, by decide +kernel⟩, by decide +kernel, fun n hn => ⟨?_, ?_, 0, Nat.zero_le _, ?_, fun j hj => absurd hj (by omega)⟩, by decide +kernel, 0, by omega, by decide +kernel, fun j hj => absurd hj (by omega)⟩, fun k hk => Or.inl ⟨rfl, ?_⟩, ⟨by decide +kernel, 0, by omega, by decide +kernel, fun j hj => absurd hj (by omega)⟩, ⟨by decide +kernel, 0, by omega, by decide +kernel, fun j hj => absurd hj (by omega)⟩, ⟨0, by omega, by decide +kernel, Or.inr ⟨rfl, by decide +kernel⟩, fun j hj => absurd hj (by omega)⟩, by decide +kernel, by decide +kernel, fun j hj => ?_⟩
  · exact (by decide +kernel : ∀ n, n < 5 → CI0 (30 + 3 * n) = nI (tW n)) n hn
  · exact (by decide +kernel : ∀ n, n < 5 → CI0 (32 + 3 * n) = MA0 1 (tO n)) n hn
  · exact (by decide +kernel : ∀ n, n < 5 → CI0 (32 + 3 * n) = nI 0) n hn
  · exact (by decide +kernel : ∀ k, k < 2 → MA0 3 k = 0) k hk
  · rfl
end P19
