/-! the reference: image, back, text -/
theorem m7 {μ : si_Mm} {j k : Nat} {v : Int32} (h : k ≠ j) : (si_ms μ 7 0 j v).1 7 0 k = μ.1 7 0 k := by rw [ms_eq, if_neg (by omega)]
theorem rf_i {μ1 μ2 : si_Mm} (h : ∀ a i j, ¬ (a = 7 ∨ 29 ≤ a) → μ2.1 a i j = μ1.1 a i j) : rf μ1 μ2 := fun a i ha => by
  funext j
  exact h a i j (fun q => by
    have : rT a = true := by
      unfold rT
      rw [Bool.or_eq_true, Nat.beq_eq, Nat.ble_eq]; exact q
    rw [this] at ha; cases ha)
theorem n8' {i : Nat} (hi : i ≤ 38) : (8 : Int32) ≤ nI i ↔ 8 ≤ i := by
  have e : (8 : Int32) = nI 8 := rfl
  rw [e, nI_le8 (by omega) (by omega)]
section RX8
variable {sc : si_Sc} {d : Nat} {μ μ' : si_Mm} {Q : si_Po} {n : Nat} {V : VT} {S S' : gS} {K : Option gS} {R : shT} {zz : Nat} {f : Nat → Int32} {w o v x y : Int32}
theorem rc_image (h : RI μ n V S K R zz f) (hq : ∀ μ', rf μ μ' → RI μ' n V S (some S) R zz f → Q (some (.inl (nI (gP S)))) μ') : si_W sc d 226 0 [some (.inr (.inr (7, 0))), none] [] μ Q := by
  have h8 := h.1.2.1.1
  have hR := h.1.1
  have l3 : ∀ (m k : Nat) (μ1 : si_Mm), k + m = 8 → (∀ a i j, ¬ (i = 0 ∧ (a = 38 ∨ a = 39 ∨ a = 40)) → μ1.1 a i j = μ.1 a i j) → (∀ i, i < 38 → μ1.1 38 0 i = μ.1 35 0 i) → (∀ i, i < 6 → μ1.1 39 0 i = μ.1 32 0 i) → (∀ i, i < k → μ1.1 40 0 i = μ.1 34 0 i) → si_W sc d 226 54 [some (.inr (.inr (7, 0))), some (.inl (nI k))] [] μ1 Q := by
    intro m
    induction m with
    | zero =>
      intro k μ1 hk hs c38 c39 c40
      refine k_X7_image_54 ⟨fun _ => ?_, fun hn => absurd ((n8' (by omega)).mpr (by omega)) hn⟩
      simp only [m7 (j := 38) (k := 7) (by decide), m7 (j := 38) (k := 8) (by decide), m7 (j := 39) (k := 8) (by decide), m7 (j := 38) (k := 9) (by decide), m7 (j := 39) (k := 9) (by decide), m7 (j := 40) (k := 9) (by decide), m7 (j := 38) (k := 4) (by decide), m7 (j := 39) (k := 4) (by decide), m7 (j := 40) (k := 4) (by decide), m7 (j := 41) (k := 4) (by decide), m7 (j := 38) (k := 14) (by decide), m7 (j := 39) (k := 14) (by decide), m7 (j := 40) (k := 14) (by decide), m7 (j := 41) (k := 14) (by decide), m7 (j := 42) (k := 14) (by decide)]
      have g : ∀ j, μ1.1 7 0 j = μ.1 7 0 j := fun j => hs 7 0 j (by omega)
      rw [g 14, g 7, g 8, g 9, g 4, hR.P h.1.2.1]
      have oth : ∀ a i j, ¬ (a = 7 ∧ i = 0 ∧ 38 ≤ j ∧ j ≤ 42) → (si_ms (si_ms (si_ms (si_ms (si_ms μ1 7 0 38 (nI (gP S))) 7 0 39 (μ.1 7 0 7)) 7 0 40 (μ.1 7 0 8)) 7 0 41 (μ.1 7 0 9)) 7 0 42 (μ.1 7 0 4)).1 a i j = μ1.1 a i j := fun a i j e => by
        rw [ms_eq, if_neg (by omega), ms_eq, if_neg (by omega), ms_eq, if_neg (by omega), ms_eq, if_neg (by omega), ms_eq, if_neg (by omega)]
      have v42 : (si_ms (si_ms (si_ms (si_ms (si_ms μ1 7 0 38 (nI (gP S))) 7 0 39 (μ.1 7 0 7)) 7 0 40 (μ.1 7 0 8)) 7 0 41 (μ.1 7 0 9)) 7 0 42 (μ.1 7 0 4)).1 7 0 42 = μ.1 7 0 4 := by rw [ms_eq, if_pos ⟨rfl, rfl, rfl⟩]
      have v41 : (si_ms (si_ms (si_ms (si_ms (si_ms μ1 7 0 38 (nI (gP S))) 7 0 39 (μ.1 7 0 7)) 7 0 40 (μ.1 7 0 8)) 7 0 41 (μ.1 7 0 9)) 7 0 42 (μ.1 7 0 4)).1 7 0 41 = μ.1 7 0 9 := by rw [m7 (by decide), ms_eq, if_pos ⟨rfl, rfl, rfl⟩]
      have v40 : (si_ms (si_ms (si_ms (si_ms (si_ms μ1 7 0 38 (nI (gP S))) 7 0 39 (μ.1 7 0 7)) 7 0 40 (μ.1 7 0 8)) 7 0 41 (μ.1 7 0 9)) 7 0 42 (μ.1 7 0 4)).1 7 0 40 = μ.1 7 0 8 := by rw [m7 (by decide), m7 (by decide), ms_eq, if_pos ⟨rfl, rfl, rfl⟩]
      have v39 : (si_ms (si_ms (si_ms (si_ms (si_ms μ1 7 0 38 (nI (gP S))) 7 0 39 (μ.1 7 0 7)) 7 0 40 (μ.1 7 0 8)) 7 0 41 (μ.1 7 0 9)) 7 0 42 (μ.1 7 0 4)).1 7 0 39 = μ.1 7 0 7 := by rw [m7 (by decide), m7 (by decide), m7 (by decide), ms_eq, if_pos ⟨rfl, rfl, rfl⟩]
      have v38 : (si_ms (si_ms (si_ms (si_ms (si_ms μ1 7 0 38 (nI (gP S))) 7 0 39 (μ.1 7 0 7)) 7 0 40 (μ.1 7 0 8)) 7 0 41 (μ.1 7 0 9)) 7 0 42 (μ.1 7 0 4)).1 7 0 38 = nI (gP S) := by rw [m7 (by decide), m7 (by decide), m7 (by decide), m7 (by decide), ms_eq, if_pos ⟨rfl, rfl, rfl⟩]
      generalize si_ms (si_ms (si_ms (si_ms (si_ms μ1 7 0 38 (nI (gP S))) 7 0 39 (μ.1 7 0 7)) 7 0 40 (μ.1 7 0 8)) 7 0 41 (μ.1 7 0 9)) 7 0 42 (μ.1 7 0 4) = μ2 at oth v42 v41 v40 v39 v38
      have al : ∀ a i j, ¬ (a = 7 ∧ i = 0 ∧ 38 ≤ j ∧ j ≤ 42) → ¬ (i = 0 ∧ (a = 38 ∨ a = 39 ∨ a = 40)) → μ2.1 a i j = μ.1 a i j := fun a i j e1 e2 => (oth a i j e1).trans (hs a i j e2)
      have fa : ∀ a, a ≠ 7 → a ≠ 38 → a ≠ 39 → a ≠ 40 → μ2.1 a 0 = μ.1 a 0 := fun a n1 n2 n3 n4 => by funext j; exact al a 0 j (by omega) (by omega)
      obtain ⟨h1, h2, h3, h4, h5⟩ := h
      refine hq μ2 (rf_i fun a i j e => al a i j (by omega) (by omega)) ⟨⟨h1.1.of (fun j hj => al 7 0 j (by omega) (by omega)) (fa _ (by omega) (by omega) (by omega) (by omega)) (fa _ (by omega) (by omega) (by omega) (by omega)) (fa _ (by omega) (by omega) (by omega) (by omega)) (fun k _ => al 35 0 k (by omega) (by omega)) h8, h1.2.1, h1.2.2.1, h1.2.2.2.1, h1.2.2.2.2.1.of (fa _ (by omega) (by omega) (by omega) (by omega)) (fa _ (by omega) (by omega) (by omega) (by omega)), h1.2.2.2.2.2⟩, (al 7 0 3 (by omega) (by omega)).trans h2, ⟨(al 7 0 6 (by omega) (by omega)).trans h3.1, h3.2.1, fun i hi => by rw [fa 31 (by omega) (by omega) (by omega) (by omega)]; exact h3.2.2 i hi⟩, h4.of (fa _ (by omega) (by omega) (by omega) (by omega)) (fa _ (by omega) (by omega) (by omega) (by omega)) (fa _ (by omega) (by omega) (by omega) (by omega)) (fa _ (by omega) (by omega) (by omega) (by omega)), ⟨⟨v39.trans hR.1, v40.trans hR.2.1, v41.trans hR.2.2.1, v42.trans hR.2.2.2.1, v38, fun s hs' => ⟨?_, ?_⟩, fun p hp => ?_⟩, Nat.le_refl _, fun _ _ => rfl⟩⟩
      · rw [oth 38 0 s (by omega), c38 s (by omega)]; exact (hR.2.2.2.2.2.1 s hs').1
      · rw [oth 39 0 s (by omega), c39 s (by omega)]; exact (hR.2.2.2.2.2.1 s hs').2
      · obtain ⟨b1, b2, b3, b4, b5⟩ := hR.2.2.2.2.2.2 p hp
        rw [oth 40 0 p (by omega), c40 p (by omega), oth 38 0 _ (by omega), c38 _ (by omega), oth 38 0 _ (by omega), c38 _ (by omega), oth 38 0 _ (by omega), c38 _ (by omega), oth 38 0 _ (by omega), c38 _ (by omega)]
        exact ⟨b2, b3, b4, b5⟩
    | succ m ih =>
      intro k μ1 hk hs c38 c39 c40
      have ck : (nI k).toNatClampNeg = k := nI_c (by omega)
      refine k_X7_image_54 ⟨fun hn => absurd ((n8' (by omega)).mp hn) (by omega), fun _ => ⟨vp_in_nI (by omega) (by omega), vp_in_nI (by omega) (by omega), ?_⟩⟩
      rw [ck, nI_1]
      refine ih (k + 1) _ (by omega) (fun a i j e => by rw [ms_eq, if_neg (by omega)]; exact hs a i j e) (fun i hi => by rw [ms_eq, if_neg (by omega)]; exact c38 i hi) (fun i hi => by rw [ms_eq, if_neg (by omega)]; exact c39 i hi) (fun i hi => ?_)
      rw [ms_eq]
      by_cases e : i = k
      · rw [if_pos ⟨rfl, rfl, e⟩, e]; exact hs 34 0 k (by omega)
      · rw [if_neg (by omega)]; exact c40 i (by omega)
  have l2 : ∀ (m k : Nat) (μ1 : si_Mm), k + m = 6 → (∀ a i j, ¬ (i = 0 ∧ (a = 38 ∨ a = 39 ∨ a = 40)) → μ1.1 a i j = μ.1 a i j) → (∀ i, i < 38 → μ1.1 38 0 i = μ.1 35 0 i) → (∀ i, i < k → μ1.1 39 0 i = μ.1 32 0 i) → si_W sc d 226 28 [some (.inr (.inr (7, 0))), some (.inl (nI k))] [] μ1 Q := by
    intro m
    induction m with
    | zero =>
      intro k μ1 hk hs c38 c39
      exact k_X7_image_28 ⟨fun _ => l3 8 0 μ1 (by omega) hs c38 (fun i hi => c39 i (by omega)) (fun i hi => absurd hi (Nat.not_lt_zero i)), fun hn => absurd ((n6 (by omega)).mpr (by omega)) hn⟩
    | succ m ih =>
      intro k μ1 hk hs c38 c39
      have ck : (nI k).toNatClampNeg = k := nI_c (by omega)
      refine k_X7_image_28 ⟨fun hn => absurd ((n6 (by omega)).mp hn) (by omega), fun _ => ⟨vp_in_nI (by omega) (by omega), vp_in_nI (by omega) (by omega), ?_⟩⟩
      rw [ck, nI_1]
      refine ih (k + 1) _ (by omega) (fun a i j e => by rw [ms_eq, if_neg (by omega)]; exact hs a i j e) (fun i hi => by rw [ms_eq, if_neg (by omega)]; exact c38 i hi) (fun i hi => ?_)
      rw [ms_eq]
      by_cases e : i = k
      · rw [if_pos ⟨rfl, rfl, e⟩, e]; exact hs 32 0 k (by omega)
      · rw [if_neg (by omega)]; exact c39 i (by omega)
  have l1 : ∀ (m k : Nat) (μ1 : si_Mm), k + m = 38 → (∀ a i j, ¬ (i = 0 ∧ (a = 38 ∨ a = 39 ∨ a = 40)) → μ1.1 a i j = μ.1 a i j) → (∀ i, i < k → μ1.1 38 0 i = μ.1 35 0 i) → si_W sc d 226 2 [some (.inr (.inr (7, 0))), some (.inl (nI k))] [] μ1 Q := by
    intro m
    induction m with
    | zero =>
      intro k μ1 hk hs c38
      exact k_X7_image_2 ⟨fun _ => l2 6 0 μ1 (by omega) hs (fun i hi => c38 i (by omega)) (fun i hi => absurd hi (Nat.not_lt_zero i)), fun hn => absurd ((n38 (by omega)).mpr (by omega)) hn⟩
    | succ m ih =>
      intro k μ1 hk hs c38
      have ck : (nI k).toNatClampNeg = k := nI_c (by omega)
      refine k_X7_image_2 ⟨fun hn => absurd ((n38 (by omega)).mp hn) (by omega), fun _ => ⟨vp_in_nI (by omega) (by omega), vp_in_nI (by omega) (by omega), ?_⟩⟩
      rw [ck, nI_1]
      refine ih (k + 1) _ (by omega) (fun a i j e => by rw [ms_eq, if_neg (by omega)]; exact hs a i j e) (fun i hi => ?_)
      rw [ms_eq]
      by_cases e : i = k
      · rw [if_pos ⟨rfl, rfl, e⟩, e]; exact hs 35 0 k (by omega)
      · rw [if_neg (by omega)]; exact c38 i (by omega)
  exact k_X7_image_0 (l1 38 0 μ (by omega) (fun _ _ _ _ => rfl) (fun i hi => absurd hi (Nat.not_lt_zero i)))
theorem rc_back (h : RI μ n V S K R zz f) (hw' : gw (N_back S K) n) (hr' : gr (N_back S K)) (hq : ∀ μ', rf μ μ' → RI μ' n V (N_back S K) K R zz f → Q (some (.inl (A_back K))) μ') : si_W sc d 227 0 [some (.inr (.inr (7, 0))), none] [] μ Q := by
  cases K with
  | none => exact k_X7_back_0 ⟨fun c => absurd h.2.2.2.2 c, fun _ => hq μ rf.refl h⟩
  | some S2 =>
  have hS2 : N_back S (some S2) = S2 := rfl
  rw [hS2] at hw' hr' hq
  obtain ⟨h1, h2, h3, h4, ⟨k1, k2, k3⟩⟩ := h
  obtain ⟨r39, r40, r41, r42, r38, rs, rp⟩ := k1
  have hK : RKp μ S2 := ⟨r39, r40, r41, r42, r38, rs, rp⟩
  have h8 := h1.2.1.1
  have h8' : gP S2 ≤ 8 := hw'.1
  have l3 : ∀ (m k : Nat) (μ1 : si_Mm), k + m = 8 → (∀ a i j, ¬ (i = 0 ∧ (a = 35 ∨ a = 32 ∨ a = 34)) → μ1.1 a i j = μ.1 a i j) → (∀ i, i < 38 → μ1.1 35 0 i = μ.1 38 0 i) → (∀ i, i < 6 → μ1.1 32 0 i = μ.1 39 0 i) → (∀ i, i < k → μ1.1 34 0 i = μ.1 40 0 i) → si_W sc d 227 65 [some (.inr (.inr (7, 0))), some (.inl (nI k))] [] μ1 Q := by
    intro m
    induction m with
    | zero =>
      intro k μ1 hk hs c38 c39 c40
      refine k_X7_back_65 ⟨fun _ => ?_, fun hn => absurd ((n8' (by omega)).mpr (by omega)) hn⟩
      simp only [m7 (j := 14) (k := 39) (by decide), m7 (j := 14) (k := 40) (by decide), m7 (j := 7) (k := 40) (by decide), m7 (j := 14) (k := 41) (by decide), m7 (j := 7) (k := 41) (by decide), m7 (j := 8) (k := 41) (by decide), m7 (j := 14) (k := 42) (by decide), m7 (j := 7) (k := 42) (by decide), m7 (j := 8) (k := 42) (by decide), m7 (j := 9) (k := 42) (by decide), m7 (j := 7) (k := 14) (by decide), m7 (j := 8) (k := 14) (by decide), m7 (j := 9) (k := 14) (by decide), m7 (j := 4) (k := 14) (by decide)]
      have g : ∀ j, μ1.1 7 0 j = μ.1 7 0 j := fun j => hs 7 0 j (by omega)
      have v0 : (si_ms μ1 7 0 14 (nI (gP S2))).1 7 0 14 = nI (gP S2) := by rw [ms_eq, if_pos ⟨rfl, rfl, rfl⟩]
      rw [g 38, g 39, g 40, g 41, g 42, r38, r39, r40, r41, r42, v0]
      have oth : ∀ a i j, ¬ (a = 7 ∧ i = 0 ∧ (j = 14 ∨ j = 7 ∨ j = 8 ∨ j = 9 ∨ j = 4)) → (si_ms (si_ms (si_ms (si_ms (si_ms μ1 7 0 14 (nI (gP S2))) 7 0 7 (S2 2 2)) 7 0 8 (S2 2 3)) 7 0 9 (S2 2 4)) 7 0 4 (S2 2 5)).1 a i j = μ1.1 a i j := fun a i j e => by
        rw [ms_eq, if_neg (by omega), ms_eq, if_neg (by omega), ms_eq, if_neg (by omega), ms_eq, if_neg (by omega), ms_eq, if_neg (by omega)]
      have v4 : (si_ms (si_ms (si_ms (si_ms (si_ms μ1 7 0 14 (nI (gP S2))) 7 0 7 (S2 2 2)) 7 0 8 (S2 2 3)) 7 0 9 (S2 2 4)) 7 0 4 (S2 2 5)).1 7 0 4 = S2 2 5 := by rw [ms_eq, if_pos ⟨rfl, rfl, rfl⟩]
      have v9 : (si_ms (si_ms (si_ms (si_ms (si_ms μ1 7 0 14 (nI (gP S2))) 7 0 7 (S2 2 2)) 7 0 8 (S2 2 3)) 7 0 9 (S2 2 4)) 7 0 4 (S2 2 5)).1 7 0 9 = S2 2 4 := by rw [m7 (by decide), ms_eq, if_pos ⟨rfl, rfl, rfl⟩]
      have v8 : (si_ms (si_ms (si_ms (si_ms (si_ms μ1 7 0 14 (nI (gP S2))) 7 0 7 (S2 2 2)) 7 0 8 (S2 2 3)) 7 0 9 (S2 2 4)) 7 0 4 (S2 2 5)).1 7 0 8 = S2 2 3 := by rw [m7 (by decide), m7 (by decide), ms_eq, if_pos ⟨rfl, rfl, rfl⟩]
      have v7 : (si_ms (si_ms (si_ms (si_ms (si_ms μ1 7 0 14 (nI (gP S2))) 7 0 7 (S2 2 2)) 7 0 8 (S2 2 3)) 7 0 9 (S2 2 4)) 7 0 4 (S2 2 5)).1 7 0 7 = S2 2 2 := by rw [m7 (by decide), m7 (by decide), m7 (by decide), ms_eq, if_pos ⟨rfl, rfl, rfl⟩]
      have v14 : (si_ms (si_ms (si_ms (si_ms (si_ms μ1 7 0 14 (nI (gP S2))) 7 0 7 (S2 2 2)) 7 0 8 (S2 2 3)) 7 0 9 (S2 2 4)) 7 0 4 (S2 2 5)).1 7 0 14 = nI (gP S2) := by rw [m7 (by decide), m7 (by decide), m7 (by decide), m7 (by decide)]; exact v0
      generalize si_ms (si_ms (si_ms (si_ms (si_ms μ1 7 0 14 (nI (gP S2))) 7 0 7 (S2 2 2)) 7 0 8 (S2 2 3)) 7 0 9 (S2 2 4)) 7 0 4 (S2 2 5) = μ2 at oth v4 v9 v8 v7 v14
      have al : ∀ a i j, ¬ (a = 7 ∧ i = 0 ∧ (j = 14 ∨ j = 7 ∨ j = 8 ∨ j = 9 ∨ j = 4)) → ¬ (i = 0 ∧ (a = 35 ∨ a = 32 ∨ a = 34)) → μ2.1 a i j = μ.1 a i j := fun a i j e1 e2 => (oth a i j e1).trans (hs a i j e2)
      have fa : ∀ a, a ≠ 7 → a ≠ 35 → a ≠ 32 → a ≠ 34 → μ2.1 a 0 = μ.1 a 0 := fun a n1 n2 n3 n4 => by funext j; exact al a 0 j (by omega) (by omega)
      refine hq μ2 (rf_i fun a i j e => al a i j (by omega) (by omega)) ⟨⟨⟨v7, v8, v9, v4, v14.trans hw'.2.1.symm, fun s hs' => ⟨?_, ?_⟩, fun p hp => ?_⟩, hw', hr', h1.2.2.2.1, h1.2.2.2.2.1.of (fa _ (by omega) (by omega) (by omega) (by omega)) (fa _ (by omega) (by omega) (by omega) (by omega)), h1.2.2.2.2.2⟩, (al 7 0 3 (by omega) (by omega)).trans h2, ⟨(al 7 0 6 (by omega) (by omega)).trans h3.1, h3.2.1, fun i hi => by rw [fa 31 (by omega) (by omega) (by omega) (by omega)]; exact h3.2.2 i hi⟩, h4.of (fa _ (by omega) (by omega) (by omega) (by omega)) (fa _ (by omega) (by omega) (by omega) (by omega)) (fa _ (by omega) (by omega) (by omega) (by omega)) (fa _ (by omega) (by omega) (by omega) (by omega)), ⟨hK.of (fun j hj => al 7 0 j (by omega) (by omega)) (fa _ (by omega) (by omega) (by omega) (by omega)) (fa _ (by omega) (by omega) (by omega) (by omega)) (fa _ (by omega) (by omega) (by omega) (by omega)), Nat.le_refl _, fun _ _ => rfl⟩⟩
      · rw [oth 35 0 s (by omega), c38 s (by omega)]; exact (rs s hs').1
      · rw [oth 32 0 s (by omega), c39 s (by omega)]; exact (rs s hs').2
      · obtain ⟨b1, b2, b3, b4⟩ := rp p hp
        rw [oth 34 0 p (by omega), c40 p (by omega), oth 35 0 _ (by omega), c38 _ (by omega), oth 35 0 _ (by omega), c38 _ (by omega), oth 35 0 _ (by omega), c38 _ (by omega), oth 35 0 _ (by omega), c38 _ (by omega), al 33 0 p (by omega) (by omega)]
        exact ⟨(h1.1.2.2.2.2.2.2 p (by omega)).1.trans (k3 p hp).symm, b1, b2, b3, b4⟩
    | succ m ih =>
      intro k μ1 hk hs c38 c39 c40
      have ck : (nI k).toNatClampNeg = k := nI_c (by omega)
      refine k_X7_back_65 ⟨fun hn => absurd ((n8' (by omega)).mp hn) (by omega), fun _ => ⟨vp_in_nI (by omega) (by omega), vp_in_nI (by omega) (by omega), ?_⟩⟩
      rw [ck, nI_1]
      refine ih (k + 1) _ (by omega) (fun a i j e => by rw [ms_eq, if_neg (by omega)]; exact hs a i j e) (fun i hi => by rw [ms_eq, if_neg (by omega)]; exact c38 i hi) (fun i hi => by rw [ms_eq, if_neg (by omega)]; exact c39 i hi) (fun i hi => ?_)
      rw [ms_eq]
      by_cases e : i = k
      · rw [if_pos ⟨rfl, rfl, e⟩, e]; exact hs 40 0 k (by omega)
      · rw [if_neg (by omega)]; exact c40 i (by omega)
  have l2 : ∀ (m k : Nat) (μ1 : si_Mm), k + m = 6 → (∀ a i j, ¬ (i = 0 ∧ (a = 35 ∨ a = 32 ∨ a = 34)) → μ1.1 a i j = μ.1 a i j) → (∀ i, i < 38 → μ1.1 35 0 i = μ.1 38 0 i) → (∀ i, i < k → μ1.1 32 0 i = μ.1 39 0 i) → si_W sc d 227 39 [some (.inr (.inr (7, 0))), some (.inl (nI k))] [] μ1 Q := by
    intro m
    induction m with
    | zero =>
      intro k μ1 hk hs c38 c39
      exact k_X7_back_39 ⟨fun _ => l3 8 0 μ1 (by omega) hs c38 (fun i hi => c39 i (by omega)) (fun i hi => absurd hi (Nat.not_lt_zero i)), fun hn => absurd ((n6 (by omega)).mpr (by omega)) hn⟩
    | succ m ih =>
      intro k μ1 hk hs c38 c39
      have ck : (nI k).toNatClampNeg = k := nI_c (by omega)
      refine k_X7_back_39 ⟨fun hn => absurd ((n6 (by omega)).mp hn) (by omega), fun _ => ⟨vp_in_nI (by omega) (by omega), vp_in_nI (by omega) (by omega), ?_⟩⟩
      rw [ck, nI_1]
      refine ih (k + 1) _ (by omega) (fun a i j e => by rw [ms_eq, if_neg (by omega)]; exact hs a i j e) (fun i hi => by rw [ms_eq, if_neg (by omega)]; exact c38 i hi) (fun i hi => ?_)
      rw [ms_eq]
      by_cases e : i = k
      · rw [if_pos ⟨rfl, rfl, e⟩, e]; exact hs 39 0 k (by omega)
      · rw [if_neg (by omega)]; exact c39 i (by omega)
  have l1 : ∀ (m k : Nat) (μ1 : si_Mm), k + m = 38 → (∀ a i j, ¬ (i = 0 ∧ (a = 35 ∨ a = 32 ∨ a = 34)) → μ1.1 a i j = μ.1 a i j) → (∀ i, i < k → μ1.1 35 0 i = μ.1 38 0 i) → si_W sc d 227 13 [some (.inr (.inr (7, 0))), some (.inl (nI k))] [] μ1 Q := by
    intro m
    induction m with
    | zero =>
      intro k μ1 hk hs c38
      exact k_X7_back_13 ⟨fun _ => l2 6 0 μ1 (by omega) hs (fun i hi => c38 i (by omega)) (fun i hi => absurd hi (Nat.not_lt_zero i)), fun hn => absurd ((n38 (by omega)).mpr (by omega)) hn⟩
    | succ m ih =>
      intro k μ1 hk hs c38
      have ck : (nI k).toNatClampNeg = k := nI_c (by omega)
      refine k_X7_back_13 ⟨fun hn => absurd ((n38 (by omega)).mp hn) (by omega), fun _ => ⟨vp_in_nI (by omega) (by omega), vp_in_nI (by omega) (by omega), ?_⟩⟩
      rw [ck, nI_1]
      refine ih (k + 1) _ (by omega) (fun a i j e => by rw [ms_eq, if_neg (by omega)]; exact hs a i j e) (fun i hi => ?_)
      rw [ms_eq]
      by_cases e : i = k
      · rw [if_pos ⟨rfl, rfl, e⟩, e]; exact hs 38 0 k (by omega)
      · rw [if_neg (by omega)]; exact c38 i (by omega)
  refine k_X7_back_0 ⟨fun _ => l1 38 0 μ (by omega) (fun _ _ _ _ => rfl) (fun i hi => absurd hi (Nat.not_lt_zero i)), fun c => ?_⟩
  rw [r38] at c; exact absurd c (nI_neg1 (by omega))
end RX8
