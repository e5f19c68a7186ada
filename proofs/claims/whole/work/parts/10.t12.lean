def popc12 (s : Nat) : Nat := sg (bn s) 0 12
set_option maxRecDepth 100000 in
theorem bc12_all : ∀ s, s < 4096 → (f_J6_bitCount_0f7a4 0 (nI s) (fun _ _ => 0)).map (fun q => q.1) = some (nI (popc12 s)) := by decide +kernel
theorem bc12_spec (F : Nat) {s : Nat} (hs : s < 4096) (h : HP) : f_J6_bitCount_0f7a4 F (nI s) h = some (nI (popc12 s), h) := by
  have := bc12_all s hs
  unfold f_J6_bitCount_0f7a4 at this ⊢
  simp only [Option.map_some, Option.some.injEq] at this
  rw [this]
