set_option maxRecDepth 20000 in
theorem tt_1 (sc : si_Sc) (d g : Nat) (x i : Int32) (μ : si_Mm) (Q : si_Po) (h : ((μ.1 2 g 6 ≤ i → Q (some (.inl (-1))) μ) ∧ (¬ μ.1 2 g 6 ≤ i → (vp_in i 8 ∧ ((¬ μ.1 18 g i.toNatClampNeg = x → si_W sc d 18 2 [some (.inr (.inr (2, g))), some (.inl x), some (.inl (i + 1))] [] μ Q) ∧ (μ.1 18 g i.toNatClampNeg = x → Q (some (.inl i)) μ)))))) : si_W sc d 18 2 [some (.inr (.inr (2, g))), some (.inl x), some (.inl i)] [] μ Q := si_go [2] 50 h
set_option maxRecDepth 20000 in
theorem tt_2 (sc : si_Sc) (d g : Nat) (x : Int32) (μ : si_Mm) (Q : si_Po) (h : si_W sc d 18 2 [some (.inr (.inr (2, g))), some (.inl x), some (.inl 0)] [] μ Q) : si_W sc d 18 0 [some (.inr (.inr (2, g))), some (.inl x), none] [] μ Q := si_go [2] 50 h
