/-! the reference: text -/
section RX9
variable {sc : si_Sc} {d : Nat} {μ μ' : si_Mm} {Q : si_Po} {n : Nat} {V : VT} {S S' : gS} {K : Option gS} {R : shT} {zz : Nat} {f : Nat → Int32} {w o v x y : Int32}
theorem n160x {t i : Nat} : 160 * nI t + nI i = nI (160 * t + i) := by
  have e : (160 : Int32) = nI 160 := rfl
  rw [e, pk_mul, nI_add]
theorem rc_text (h : RI μ n V S K R zz f) (full : n = 6 → Q (some (.inl (-4))) μ)
    (ok : ∀ k' c0 c1 c2, n < 6 → q_text (TT f zz) (WW f zz) = (k', some (c0, c1, c2)) → ∀ μ', rf μ μ' → (∀ V' : VT, vr V' → (∀ t, t < n → ∀ p, p < 3 → ∀ nm, V' t p nm = V t p nm) → (∀ nm, V' n 0 nm = cl (evl nm c0) ∧ V' n 1 nm = cl (evl nm c1) ∧ V' n 2 nm = cl (evl nm c2)) → RI μ' (n + 1) V' S K R 0 f) → Q (some (.inl (nI n))) μ')
    (bad : ∀ k', n < 6 → q_text (TT f zz) (WW f zz) = (k', none) → ∀ μ', rf μ μ' → (∀ V' : VT, vr V' → (∀ t, t < n → ∀ p, p < 3 → ∀ nm, V' t p nm = V t p nm) → RI μ' n V' S K R 0 f) → Q (some (.inl (-100 - nI (BB f zz k')))) μ') : si_W sc (d + 42) 190 0 [some (.inr (.inr (7, 0))), none] [] μ Q := by
  obtain ⟨h1, h2, h3, h4, h5⟩ := h
  have hn6 := h1.2.2.2.1
  have e6 : (6 : Int32) = nI 6 := rfl
  refine k_X7_text_0 ?_
  rw [h2, e6, nIe (by omega) (by omega)]
  refine ⟨fun ne => ?_, full⟩
  have hn : n < 6 := by omega
  have cn : (nI n).toNatClampNeg = n := nI_c (by omega)
  -- what stays, when the tape is copied and read
  have keep : ∀ (μ2 : si_Mm), (∀ a i j, ¬ (a = 7 ∧ i = 0 ∧ (j = 3 ∨ j = 6 ∨ (15 ≤ j ∧ j ≤ 29))) → ¬ (a = 29 ∧ i = 0 ∧ 160 * n ≤ j) → ¬ (a = 30 ∧ i = 0 ∧ j = n) → μ2.1 a i j = μ.1 a i j) → μ2.1 7 0 6 = 0 → ∀ (V' : VT) (n' : Nat), n ≤ n' → n' ≤ 6 → μ2.1 7 0 3 = nI n' → vr V' → RT μ2 n' V' → RI μ2 n' V' S K R 0 f := by
    intro μ2 al v6 V' n' hnn hn' v3 hv hT
    have fa : ∀ a, a ≠ 7 → a ≠ 29 → a ≠ 30 → μ2.1 a 0 = μ.1 a 0 := fun a n1 n2 n3 => by funext j; exact al a 0 j (by omega) (by omega) (by omega)
    exact ⟨⟨h1.1.of (fun j hj => al 7 0 j (by omega) (by omega) (by omega)) (fa _ (by omega) (by omega) (by omega)) (fa _ (by omega) (by omega) (by omega)) (fa _ (by omega) (by omega) (by omega)) (fun k _ => al 35 0 k (by omega) (by omega) (by omega)) h1.2.1.1, gw_n h1.2.1 hnn, h1.2.2.1, hn', hT, hv⟩, v3, ⟨v6, by omega, fun i hi => absurd hi (Nat.not_lt_zero i)⟩, h4.of (fa _ (by omega) (by omega) (by omega)) (fa _ (by omega) (by omega) (by omega)) (fa _ (by omega) (by omega) (by omega)) (fa _ (by omega) (by omega) (by omega)), h5.of (fun j hj => al 7 0 j (by omega) (by omega) (by omega)) (fa _ (by omega) (by omega) (by omega)) (fa _ (by omega) (by omega) (by omega)) (fa _ (by omega) (by omega) (by omega)) ⟨Nat.le_refl _, fun _ _ => rfl⟩⟩
  have old : ∀ (μ2 : si_Mm), (∀ a i j, ¬ (a = 7 ∧ i = 0 ∧ (j = 3 ∨ j = 6 ∨ (15 ≤ j ∧ j ≤ 29))) → ¬ (a = 29 ∧ i = 0 ∧ 160 * n ≤ j) → ¬ (a = 30 ∧ i = 0 ∧ j = n) → μ2.1 a i j = μ.1 a i j) → ∀ (V' : VT), (∀ t, t < n → ∀ p, p < 3 → ∀ nm, V' t p nm = V t p nm) → RT μ2 n V' := by
    intro μ2 al V' ag t ht
    obtain ⟨f', z', a1, a2, a3, k', c0, c1, c2, a4, a5⟩ := h1.2.2.2.2.1 t ht
    refine ⟨f', z', a1, (al 30 0 t (by omega) (by omega) (by omega)).trans a2, fun i hi => ?_, k', c0, c1, c2, a4, fun nm => ?_⟩
    · rw [al 29 0 (160 * t + i) (by omega) (by omega) (by omega)]; exact a3 i hi
    · rw [ag t ht 0 (by omega), ag t ht 1 (by omega), ag t ht 2 (by omega)]; exact a5 nm
  have lp : ∀ (m k : Nat) (μ1 : si_Mm), k + m = zz → (∀ a i j, ¬ (a = 29 ∧ i = 0 ∧ 160 * n ≤ j) → μ1.1 a i j = μ.1 a i j) → (∀ i, i < k → μ1.1 29 0 (160 * n + i) = f i) → si_W sc (d + 42) 190 14 [some (.inr (.inr (7, 0))), some (.inl (nI k))] [] μ1 Q := by
    have hz := h3.2.1
    intro m
    induction m with
    | zero =>
      intro k μ1 hk hs hc
      have g : ∀ j, μ1.1 7 0 j = μ.1 7 0 j := fun j => hs 7 0 j (by omega)
      refine k_X7_text_14 ?_
      rw [m7 (by decide), g 6, g 3, h2, h3.1, cn]
      have g3 : (si_ms μ1 30 0 n (nI zz)).1 7 0 3 = nI n := by rw [ms_eq, if_neg (by omega), g 3]; exact h2
      rw [g3]
      refine ⟨fun _ => ⟨vp_in_nI (by omega) (by omega), ?_⟩, fun hn => absurd ?_ hn⟩
      · have al : ∀ a i j, ¬ (a = 7 ∧ i = 0 ∧ j = 6) → ¬ (a = 29 ∧ i = 0 ∧ 160 * n ≤ j) → ¬ (a = 30 ∧ i = 0 ∧ j = n) → (si_ms (si_ms μ1 30 0 n (nI zz)) 7 0 6 0).1 a i j = μ.1 a i j := fun a i j e1 e2 e3 => by
          rw [ms_eq, if_neg e1, ms_eq, if_neg e3]; exact hs a i j e2
        have v6 : (si_ms (si_ms μ1 30 0 n (nI zz)) 7 0 6 0).1 7 0 6 = 0 := by rw [ms_eq, if_pos ⟨rfl, rfl, rfl⟩]
        have v30 : (si_ms (si_ms μ1 30 0 n (nI zz)) 7 0 6 0).1 30 0 n = nI zz := by rw [ms_eq, if_neg (by omega), ms_eq, if_pos ⟨rfl, rfl, rfl⟩]
        have v29 : ∀ i, i < zz → (si_ms (si_ms μ1 30 0 n (nI zz)) 7 0 6 0).1 29 0 (160 * n + i) = f i ∧ 0 ≤ (f i).toInt := fun i hi => by
          rw [ms_eq, if_neg (by omega), ms_eq, if_neg (by omega)]
          exact ⟨hc i (by omega), (h3.2.2 i hi).2⟩
        generalize si_ms (si_ms μ1 30 0 n (nI zz)) 7 0 6 0 = μ2 at al v6 v30 v29
        have fJ : ∀ {μ3 : si_Mm}, fx Jr A0 μ2 μ3 → ∀ a i j, ¬ (a = 7 ∧ i = 0 ∧ (j = 6 ∨ (15 ≤ j ∧ j ≤ 29))) → ¬ (a = 29 ∧ i = 0 ∧ 160 * n ≤ j) → ¬ (a = 30 ∧ i = 0 ∧ j = n) → μ3.1 a i j = μ.1 a i j := fun f3 a i j e1 e2 e3 => (f3 a i j (fun q => by have := Jr_i.mp q.2.2; omega) rfl).trans (al a i j (by omega) e2 e3)
        refine r_read (nm := fun i => μ2.1 7 0 (15 + i)) hn v30 hz v29 (fun _ _ => rfl) (fun k' c0 c1 c2 μ3 u0 u1 u2 eq f3 z28 _ _ _ => k_X7_text_76 ⟨fun _ => ?_, fun c => absurd z28 c⟩) (fun k' μ3 u eq f3 b3 => k_X7_text_76 ⟨fun c => ?_, fun _ => ?_⟩)
        · have q3 : μ3.1 7 0 3 = nI n := (fJ f3 7 0 3 (by omega) (by omega) (by omega)).trans h2
          rw [q3, nI_1]
          have p3 : (si_ms μ3 7 0 3 (nI (n + 1))).1 7 0 3 = nI (n + 1) := by rw [ms_eq, if_pos ⟨rfl, rfl, rfl⟩]
          rw [p3, nI_sub1 (by omega) (by omega), show n + 1 - 1 = n by omega]
          have al3 : ∀ a i j, ¬ (a = 7 ∧ i = 0 ∧ (j = 3 ∨ j = 6 ∨ (15 ≤ j ∧ j ≤ 29))) → ¬ (a = 29 ∧ i = 0 ∧ 160 * n ≤ j) → ¬ (a = 30 ∧ i = 0 ∧ j = n) → (si_ms μ3 7 0 3 (nI (n + 1))).1 a i j = μ.1 a i j := fun a i j e1 e2 e3 => by
            rw [ms_eq, if_neg (by omega)]; exact fJ f3 a i j (by omega) e2 e3
          have w6 : (si_ms μ3 7 0 3 (nI (n + 1))).1 7 0 6 = 0 := by
            rw [ms_eq, if_neg (by omega), f3 7 0 6 (fun q => by have := Jr_i.mp q.2.2; omega) rfl]; exact v6
          have w30 : (si_ms μ3 7 0 3 (nI (n + 1))).1 30 0 n = nI zz := by
            rw [ms_eq, if_neg (by omega), f3 30 0 n (by omega) rfl]; exact v30
          have w29 : ∀ i, i < zz → (si_ms μ3 7 0 3 (nI (n + 1))).1 29 0 (160 * n + i) = f i ∧ 0 ≤ (f i).toInt := fun i hi => by
            rw [ms_eq, if_neg (by omega), f3 29 0 _ (by omega) rfl]; exact v29 i hi
          generalize si_ms μ3 7 0 3 (nI (n + 1)) = μ4 at p3 al3 w6 w30 w29
          refine ok k' c0 c1 c2 hn eq μ4 (rf_i fun a i j e => al3 a i j (by omega) (by omega) (by omega)) (fun V' hv ag nw => keep μ4 al3 w6 V' (n + 1) (by omega) (by omega) p3 hv (fun t ht => ?_))
          by_cases et : t = n
          · subst et
            exact ⟨f, zz, hz, w30, w29, k', c0, c1, c2, eq, nw⟩
          · exact old μ4 al3 V' ag t (by omega)
        · rw [b3.1] at c; exact absurd c (by decide)
        · rw [b3.2]
          have al3 : ∀ a i j, ¬ (a = 7 ∧ i = 0 ∧ (j = 3 ∨ j = 6 ∨ (15 ≤ j ∧ j ≤ 29))) → ¬ (a = 29 ∧ i = 0 ∧ 160 * n ≤ j) → ¬ (a = 30 ∧ i = 0 ∧ j = n) → μ3.1 a i j = μ.1 a i j := fun a i j e1 e2 e3 => fJ f3 a i j (by omega) e2 e3
          have w6 : μ3.1 7 0 6 = 0 := (f3 7 0 6 (fun q => by have := Jr_i.mp q.2.2; omega) rfl).trans v6
          have p3 : μ3.1 7 0 3 = nI n := (fJ f3 7 0 3 (by omega) (by omega) (by omega)).trans h2
          exact bad k' hn eq μ3 (rf_i fun a i j e => al3 a i j (by omega) (by omega) (by omega)) (fun V' hv ag => keep μ3 al3 w6 V' n (Nat.le_refl _) hn6 p3 hv (old μ3 al3 V' ag))
      · rw [nI_le8 (by omega) (by omega)]; omega
    | succ m ih =>
      intro k μ1 hk hs hc
      have g : ∀ j, μ1.1 7 0 j = μ.1 7 0 j := fun j => hs 7 0 j (by omega)
      have ck : (nI k).toNatClampNeg = k := nI_c (by omega)
      have cc : (nI (160 * n + k)).toNatClampNeg = 160 * n + k := nI_c (by omega)
      refine k_X7_text_14 ?_
      rw [g 6, g 3, h2, h3.1, n160x, ck, cc, nI_1]
      refine ⟨fun hn => ?_, fun _ => ⟨vp_in_nI (by omega) (by omega), vp_in_nI (by omega) (by omega), ?_⟩⟩
      · rw [nI_le8 (by omega) (by omega)] at hn; omega
      · refine ih (k + 1) _ (by omega) (fun a i j e => by rw [ms_eq, if_neg (by omega)]; exact hs a i j e) (fun i hi => ?_)
        rw [ms_eq]
        by_cases e : i = k
        · rw [if_pos ⟨rfl, rfl, by omega⟩, e, hs 31 0 k (by omega)]; exact (h3.2.2 k (by omega)).1
        · rw [if_neg (by omega)]; exact hc i (by omega)
  exact lp zz 0 μ (by omega) (fun _ _ _ _ => rfl) (fun i hi => absurd hi (Nat.not_lt_zero i))
end RX9
