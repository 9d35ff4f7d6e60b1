set_option maxRecDepth 50000 in
theorem k_X0_start_0 {sc : si_Sc} {d : Nat} {x1 : Int32} {μ : si_Mm} {Q : si_Po} (h : Q none (si_ms (si_ms μ 0 0 0 (-1)) 0 0 1 x1)) : si_W sc d 1 0 [some (.inr (.inr (0, 0))), some (.inl x1)] [] μ Q := si_go [] 400 h
set_option maxRecDepth 50000 in
theorem k_X0_offer_0 {sc : si_Sc} {d : Nat} {x1 x2 : Int32} {μ : si_Mm} {Q : si_Po} (h : ((x2 ≤ (μ.1 0 0 1) → Q none μ) ∧ (¬ x2 ≤ (μ.1 0 0 1) → Q none (si_ms (si_ms μ 0 0 0 x1) 0 0 1 x2)))) : si_W sc d 2 0 [some (.inr (.inr (0, 0))), some (.inl x1), some (.inl x2)] [] μ Q := si_go [] 400 h
set_option maxRecDepth 50000 in
theorem k_X0_answer_0 {sc : si_Sc} {d : Nat} {x1 : Int32} {μ : si_Mm} {Q : si_Po} (h : ((¬ x1 = 0 → Q (some (.inl (μ.1 0 0 1))) μ) ∧ (x1 = 0 → Q (some (.inl (μ.1 0 0 0))) μ))) : si_W sc d 3 0 [some (.inr (.inr (0, 0))), some (.inl x1)] [] μ Q := si_go [] 400 h
