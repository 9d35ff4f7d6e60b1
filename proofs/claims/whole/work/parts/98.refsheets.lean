/-! the reference: sheet, cell, copy, tenants, film -/
section RXa
variable {sc : si_Sc} {d : Nat} {μ μ' : si_Mm} {Q : si_Po} {n : Nat} {V : VT} {S S' : gS} {K : Option gS} {R R' : shT} {zz : Nat} {f : Nat → Int32} {w o v x y : Int32}
theorem c3_ : si_c64 20 = (3 : Int32).toInt64 := by decide +kernel
theorem cm1_ : si_c64 21 = (-1 : Int32).toInt64 := by decide +kernel
theorem c2_ : si_c64 22 = (2 : Int32).toInt64 := by decide +kernel
theorem c8_ : si_c64 10 = (8 : Int32).toInt64 := by decide +kernel
theorem RI.sh (h : RI μ n V S K R zz f) (al : ∀ a i j, ¬ (41 ≤ a ∧ a ≤ 44) → μ'.1 a i j = μ.1 a i j) (hr : RR μ' R') : rf μ μ' ∧ RI μ' n V S K R' zz f := by
  obtain ⟨h1, h2, h3, h4, h5⟩ := h
  have fa : ∀ a, ¬ (41 ≤ a ∧ a ≤ 44) → μ'.1 a 0 = μ.1 a 0 := fun a e => by funext j; exact al a 0 j e
  exact ⟨rf_i fun a i j e => al a i j (by omega), ⟨h1.1.of (fun j hj => al 7 0 j (by omega)) (fa _ (by omega)) (fa _ (by omega)) (fa _ (by omega)) (fun k _ => al 35 0 k (by omega)) h1.2.1.1, h1.2.1, h1.2.2.1, h1.2.2.2.1, h1.2.2.2.2.1.of (fa _ (by omega)) (fa _ (by omega)), h1.2.2.2.2.2⟩, (al 7 0 3 (by omega)).trans h2, ⟨(al 7 0 6 (by omega)).trans h3.1, h3.2.1, fun i hi => by rw [fa 31 (by omega)]; exact h3.2.2 i hi⟩, hr, h5.of (fun j hj => al 7 0 j (by omega)) (fa _ (by omega)) (fa _ (by omega)) (fa _ (by omega)) ⟨Nat.le_refl _, fun _ _ => rfl⟩⟩
theorem r_isSheet (hq : Q (some (.inl (bc (0 ≤ x ∧ x ≤ 3)))) μ) : si_W sc (d + 1) 219 0 [some (.inl x)] [] μ Q := k_X7_isSheet_0 (r_in l0 c3_ (k_X7_isSheet_9 ⟨bc_01 _, hq⟩))
theorem n40x {t i : Nat} : 40 * nI t + nI i = nI (40 * t + i) := by
  have e : (40 : Int32) = nI 40 := rfl
  rw [e, pk_mul, nI_add]
theorem RR_lay {t z : Nat} {so : Int32} (h : RR μ R) (hz : z ≤ 40) (o41 : ∀ t', t' < 4 → t' ≠ t → μ'.1 41 0 t' = μ.1 41 0 t' ∧ μ'.1 42 0 t' = μ.1 42 0 t' ∧ μ'.1 43 0 t' = μ.1 43 0 t') (o44 : ∀ c, ¬ (40 * t ≤ c ∧ c < 40 * t + 40) → μ'.1 44 0 c = μ.1 44 0 c) (n41 : (so = -1 → μ'.1 41 0 t = 0) ∧ (so ≠ -1 → μ'.1 41 0 t = 1 ∧ μ'.1 42 0 t = so ∧ μ'.1 43 0 t = nI z ∧ ∀ i, i < z → μ'.1 44 0 (40 * t + i) = 0)) : RR μ' (r_lay R t so z) := by
  intro t' ht'
  unfold r_lay
  dsimp only
  by_cases e : t' = t
  · subst e
    rw [fu_eq, fu_eq, fu_eq]
    exact ⟨hz, n41.1, n41.2⟩
  · rw [fu_ne e, fu_ne e, fu_ne e]
    obtain ⟨a1, a2, a3⟩ := h t' ht'
    obtain ⟨b1, b2, b3⟩ := o41 t' ht' e
    rw [b1, b2, b3]
    refine ⟨a1, a2, fun ne => ⟨(a3 ne).1, (a3 ne).2.1, (a3 ne).2.2.1, fun i hi => ?_⟩⟩
    rw [o44 _ (by omega)]; exact (a3 ne).2.2.2 i hi
theorem rc_sheet (h : RI μ n V S K R zz f) (hq : ∀ μ', rf μ μ' → RI μ' n V S K (N_sheet R w x y) zz f → Q (some (.inl (A_sheet w x y))) μ') : si_W sc (d + 2) 221 0 [some (.inr (.inr (7, 0))), some (.inl w), some (.inl x), some (.inl y), none] [] μ Q := by
  unfold A_sheet N_sheet at hq
  have hbad : ¬ okS w x → Q (some (.inl (-2))) μ := fun c => by rw [ic_f c, ic_f c] at hq; exact hq μ rf.refl h
  have em1 : (-1 : Int32).toInt = -1 := by decide
  have e40 : (40 : Int32).toInt = 40 := by decide
  refine k_X7_sheet_0 (r_isSheet (k_X7_sheet_4 ⟨fun c => k_X7_sheet_31 (hbad (fun a => bc_0 c a.1)), fun c => r_in cm1_ c2_ (k_X7_sheet_18 ⟨fun c2 => k_X7_sheet_31 (hbad (fun a => bc_0 c2 a.2)), fun c2 => ?_⟩)⟩))
  have hok : okS w x := ⟨bc_n c, bc_n c2⟩
  rw [ic_t hok, ic_t hok] at hq
  obtain ⟨t, ht, rfl⟩ := sh_n hok.1
  have ct : (nI t).toNatClampNeg = t := nI_c (by omega)
  have hin : vp_in (nI t) 4 := vp_in_nI (by omega) (by omega)
  rw [ct] at hq
  have xlt : x < 0 ↔ x = -1 := by
    have z := hok.2.1
    rw [i_le, em1] at z
    rw [i_lt, i_eq, i_0, em1]; omega
  -- what the loop leaves
  have lp : ∀ (m k : Nat) (z : Nat) (μ0 μ1 : si_Mm), k + m = z → z ≤ 40 → ¬ x = -1 → (∀ a i j, ¬ (a = 44 ∧ i = 0 ∧ 40 * t ≤ j ∧ j < 40 * t + 40) → μ1.1 a i j = μ0.1 a i j) → (∀ i, i < k → μ1.1 44 0 (40 * t + i) = 0) → (∀ μ2, (∀ a i j, ¬ (a = 44 ∧ i = 0 ∧ 40 * t ≤ j ∧ j < 40 * t + 40) → μ2.1 a i j = μ0.1 a i j) → (∀ i, i < z → μ2.1 44 0 (40 * t + i) = 0) → Q (some (.inl 1)) μ2) → si_W sc (d + 2) 221 77 [some (.inr (.inr (7, 0))), some (.inl (nI t)), some (.inl x), some (.inl (nI z)), some (.inl (nI k))] [] μ1 Q := by
    intro m
    induction m with
    | zero =>
      intro k z μ0 μ1 hk hz hx hs hc hq
      refine k_X7_sheet_77 ⟨fun _ => k_X7_sheet_106 (hq μ1 hs (fun i hi => hc i (by omega))), fun hn => absurd ?_ hn⟩
      rw [nI_le8 (by omega) (by omega)]; omega
    | succ m ih =>
      intro k z μ0 μ1 hk hz hx hs hc hq
      have cc : (nI (40 * t + k)).toNatClampNeg = 40 * t + k := nI_c (by omega)
      refine k_X7_sheet_77 ⟨fun hn => ?_, fun _ => ⟨fun c => absurd (xlt.mp c) hx, fun _ => ?_⟩⟩
      · rw [nI_le8 (by omega) (by omega)] at hn; omega
      · rw [n40x, cc, nI_1]
        refine ⟨vp_in_nI (by omega) (by omega), ih (k + 1) z μ0 _ (by omega) hz hx (fun a i j e => by rw [ms_eq, if_neg (by omega)]; exact hs a i j e) (fun i hi => ?_) hq⟩
        rw [ms_eq]
        by_cases e : i = k
        · rw [if_pos ⟨rfl, rfl, by omega⟩]
        · rw [if_neg (by omega)]; exact hc i (by omega)
  by_cases hx : x = -1
  · rw [ic_t hx, ic_t hx] at hq
    have x0 := xlt.mpr hx
    refine ⟨fun _ => k_X7_sheet_34 ⟨fun _ => k_X7_sheet_45 ⟨fun _ => k_X7_sheet_59 ⟨Or.inl rfl, hin, hin, hin, ?_⟩, fun c => absurd x0 c⟩, fun c => absurd x0 c⟩, fun c => absurd x0 c⟩
    rw [ct]
    have fin : ∀ i : Int32, si_W sc (d + 1 + 1) 221 77 [some (.inr (.inr (7, 0))), some (.inl (nI t)), some (.inl x), some (.inl y), some (.inl i)] [] (si_ms (si_ms (si_ms μ 41 0 t 0) 42 0 t x) 43 0 t y) Q := fun i => by
      have al : ∀ a i j, ¬ (i = 0 ∧ j = t ∧ 41 ≤ a ∧ a ≤ 43) → (si_ms (si_ms (si_ms μ 41 0 t 0) 42 0 t x) 43 0 t y).1 a i j = μ.1 a i j := fun a i j e => by
        rw [ms_eq, if_neg (by omega), ms_eq, if_neg (by omega), ms_eq, if_neg (by omega)]
      have v41 : (si_ms (si_ms (si_ms μ 41 0 t 0) 42 0 t x) 43 0 t y).1 41 0 t = 0 := by rw [ms_eq, if_neg (by omega), ms_eq, if_neg (by omega), ms_eq, if_pos ⟨rfl, rfl, rfl⟩]
      generalize si_ms (si_ms (si_ms μ 41 0 t 0) 42 0 t x) 43 0 t y = μ2 at al v41
      have z := h.sh (μ' := μ2) (R' := r_lay R t (-1) 0) (fun a i j e => al a i j (by omega)) (RR_lay h.2.2.2.1 (by omega) (fun t' _ ne => ⟨al _ _ _ (by omega), al _ _ _ (by omega), al _ _ _ (by omega)⟩) (fun c _ => al _ _ _ (by omega)) ⟨fun _ => v41, fun ne => absurd rfl ne⟩)
      have q := hq μ2 z.1 z.2
      exact k_X7_sheet_77 ⟨fun _ => k_X7_sheet_106 q, fun _ => ⟨fun _ => k_X7_sheet_106 q, fun c => absurd x0 c⟩⟩
    exact fin 0
  · rw [ic_f hx, ic_f hx] at hq
    have x0 : ¬ x < 0 := fun c => hx (xlt.mp c)
    refine ⟨fun c => absurd c x0, fun _ => ⟨fun c40 => ?_, fun c40 => k_X7_sheet_31 ?_⟩⟩
    · rw [ic_t c40, ic_t c40] at hq
      refine k_X7_sheet_34 ⟨fun c => absurd c x0, fun _ => ⟨fun c0 => k_X7_sheet_45 ⟨fun c => absurd c x0, fun _ => k_X7_sheet_59 ⟨Or.inr rfl, hin, hin, hin, ?_⟩⟩, fun c0 => ?_⟩⟩
      · rw [ic_t c0, ic_t c0] at hq
        have hk := rg_n (A := 40) (lo := 0) (hi := 40) (by decide) (by decide) ⟨c0, c40⟩
        generalize y.toNatClampNeg = z at hk hq
        obtain ⟨hz, rfl, _⟩ := hk
        rw [ct]
        have al : ∀ a i j, ¬ (i = 0 ∧ j = t ∧ 41 ≤ a ∧ a ≤ 43) → (si_ms (si_ms (si_ms μ 41 0 t 1) 42 0 t x) 43 0 t (nI z)).1 a i j = μ.1 a i j := fun a i j e => by
          rw [ms_eq, if_neg (by omega), ms_eq, if_neg (by omega), ms_eq, if_neg (by omega)]
        have v41 : (si_ms (si_ms (si_ms μ 41 0 t 1) 42 0 t x) 43 0 t (nI z)).1 41 0 t = 1 := by rw [ms_eq, if_neg (by omega), ms_eq, if_neg (by omega), ms_eq, if_pos ⟨rfl, rfl, rfl⟩]
        have v42 : (si_ms (si_ms (si_ms μ 41 0 t 1) 42 0 t x) 43 0 t (nI z)).1 42 0 t = x := by rw [ms_eq, if_neg (by omega), ms_eq, if_pos ⟨rfl, rfl, rfl⟩]
        have v43 : (si_ms (si_ms (si_ms μ 41 0 t 1) 42 0 t x) 43 0 t (nI z)).1 43 0 t = nI z := by rw [ms_eq, if_pos ⟨rfl, rfl, rfl⟩]
        generalize si_ms (si_ms (si_ms μ 41 0 t 1) 42 0 t x) 43 0 t (nI z) = μ2 at al v41 v42 v43
        refine lp z 0 z μ2 μ2 (by omega) hz hx (fun _ _ _ _ => rfl) (fun i hi => absurd hi (Nat.not_lt_zero i)) fun μ3 s3 c3 => ?_
        have zz' := h.sh (μ' := μ3) (R' := r_lay R t x z) (fun a i j e => (s3 a i j (by omega)).trans (al a i j (by omega))) (RR_lay h.2.2.2.1 hz (fun t' _ ne => ⟨(s3 _ _ _ (by omega)).trans (al _ _ _ (by omega)), (s3 _ _ _ (by omega)).trans (al _ _ _ (by omega)), (s3 _ _ _ (by omega)).trans (al _ _ _ (by omega))⟩) (fun c e => (s3 _ _ _ (by omega)).trans (al _ _ _ (by omega))) ⟨fun e => absurd e hx, fun _ => ⟨(s3 _ _ _ (by omega)).trans v41, (s3 _ _ _ (by omega)).trans v42, (s3 _ _ _ (by omega)).trans v43, c3⟩⟩)
        exact hq μ3 zz'.1 zz'.2
      · rw [ic_f c0, ic_f c0] at hq; exact hq μ rf.refl h
    · rw [ic_f c40, ic_f c40] at hq; exact hq μ rf.refl h
theorem RR_put {t k : Nat} (h : RR μ R) (ht : t < 4) (hk : k < R.2.1 t) (hne : R.1 t ≠ -1) : RR (si_ms μ 44 0 (40 * t + k) (cv (R.1 t) v)) (r_put R t k v) := by
  intro t' ht'
  obtain ⟨a1, a2, a3⟩ := h t' ht'
  obtain ⟨b1, _, _⟩ := h t ht
  unfold r_put
  dsimp only
  rw [ms_eq, if_neg (by omega), ms_eq, if_neg (by omega), ms_eq, if_neg (by omega)]
  refine ⟨a1, a2, fun ne => ⟨(a3 ne).1, (a3 ne).2.1, (a3 ne).2.2.1, fun i hi => ?_⟩⟩
  rw [ms_eq]
  by_cases e1 : t' = t
  · subst e1
    rw [fu_eq]
    by_cases e2 : i = k
    · subst e2; rw [if_pos ⟨rfl, rfl, rfl⟩, fu_eq]
    · rw [if_neg (by omega), fu_ne e2]; exact (a3 ne).2.2.2 i hi
  · rw [if_neg (by omega), fu_ne e1]; exact (a3 ne).2.2.2 i hi
theorem rc_cell {i : Int32} (h : RI μ n V S K R zz f) (hq : ∀ μ', rf μ μ' → RI μ' n V S K (N_cell R w i v) zz f → Q (some (.inl (A_cell R w i))) μ') : si_W sc (d + 2) 229 0 [some (.inr (.inr (7, 0))), some (.inl w), some (.inl i), some (.inl v)] [] μ Q := by
  unfold A_cell N_cell at hq
  refine k_X7_cell_0 (r_isSheet (k_X7_cell_4 ⟨fun c => ?_, fun c => ?_⟩))
  · have hw := bc_n c
    rw [ic_t hw, ic_t hw] at hq
    obtain ⟨t, ht, rfl⟩ := sh_n hw
    have ct : (nI t).toNatClampNeg = t := nI_c (by omega)
    have hin : vp_in (nI t) 4 := vp_in_nI (by omega) (by omega)
    obtain ⟨a1, a2, a3⟩ := h.2.2.2.1 t ht
    rw [ct] at hq ⊢
    refine ⟨hin, fun c2 => ⟨hin, ?_⟩, fun c2 => ?_⟩
    · have ne : R.1 t ≠ -1 := fun e => c2 (a2 e)
      obtain ⟨b1, b2, b3, b4⟩ := a3 ne
      rw [ic_f ne, ic_f ne] at hq
      rw [b3]
      refine r_in (b := nI (R.2.1 t) - 1) l0 rfl (k_X7_cell_37 ?_)
      rw [ct, b2]
      refine ⟨fun c3 => ?_, fun c3 => ?_⟩
      · have hi : inS R t i := bc_n c3
        rw [ic_t hi, ic_t hi] at hq
        have hz : 0 < R.2.1 t := by
          have z1 := hi.1
          have z2 := hi.2
          rw [i_le, i_0] at z1
          rw [i_le, i_sub (by rw [nI_toInt (by omega), i_1]; omega) (by rw [nI_toInt (by omega), i_1]; omega), nI_toInt (by omega), i_1] at z2
          omega
        have hb := hi.2
        rw [nI_sub1 hz (by omega)] at hb
        obtain ⟨k, hk, rfl⟩ : ∃ k, k < R.2.1 t ∧ i = nI k := by
          have z1 := hi.1
          rw [i_le, i_0] at z1
          rw [i_le, nI_toInt (by omega)] at hb
          exact ⟨i.toInt.toNat, by omega, by rw [i_eq, nI_toInt (by omega)]; omega⟩
        have ck : (nI k).toNatClampNeg = k := nI_c (by omega)
        have cc : (nI (40 * t + k)).toNatClampNeg = 40 * t + k := nI_c (by omega)
        rw [ck] at hq
        rw [n40x, cc]
        have hin2 : vp_in (nI (40 * t + k)) 160 := vp_in_nI (by omega) (by omega)
        have z := h.sh (μ' := si_ms μ 44 0 (40 * t + k) (cv (R.1 t) v)) (R' := r_put R t k v) (fun a i j e => by rw [ms_eq, if_neg (by omega)]) (RR_put h.2.2.2.1 ht hk ne)
        have q := hq _ z.1 z.2
        unfold cv at q
        refine ⟨hin, fun n0 => ⟨hin, fun n1 => ⟨hin2, ?_⟩, fun e1 => ⟨hin2, ?_⟩⟩, fun e0 => ⟨hin2, ?_⟩⟩
        · rw [if_neg n0, if_neg n1] at q; exact q
        · rw [if_neg n0, if_pos e1] at q; exact q
        · rw [if_pos e0] at q; exact q
      · have hi : ¬ inS R t i := bc_0 c3
        rw [ic_f hi, ic_f hi] at hq; exact hq μ rf.refl h
    · have e : R.1 t = -1 := by
        refine Classical.byContradiction fun ne => ?_
        have z := (a3 ne).1
        rw [c2] at z; exact absurd z (by decide)
      rw [ic_t e, ic_t e] at hq; exact hq μ rf.refl h
  · have hw := bc_0 c
    rw [ic_f hw, ic_f hw] at hq; exact hq μ rf.refl h
end RXa
