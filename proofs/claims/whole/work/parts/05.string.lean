theorem ct_indexOf {Γ : GA} (x : Int32) (S : St) : CtI Γ yJ0_indexOf_0f7a4 cJ0_indexOf_0f7a4 2 (some .int) 3 [.ref (gK Γ), .int x] S (f_indexOf x S) := sorry
