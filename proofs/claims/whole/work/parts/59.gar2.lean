/-! become, comes, the counts, the list -/
theorem gr_z {S : gS} {a k : Nat} (h : gr S) (h1 : loV a k = 0) (h2 : hiV a k = 0) : S a k = 0 := by
  have := h a k
  rw [h1, h2] at this
  exact i_eq.mpr (by rw [i_0]; omega)
theorem cpA {f g : Nat → Int32} {N : Nat} (hf : ∀ k, N ≤ k → f k = 0) (hg : ∀ k, N ≤ k → g k = 0) : va_cpy f g 0 0 N = f := by
  funext k
  unfold va_cpy
  by_cases e : 0 ≤ k ∧ k < 0 + N
  · rw [if_pos e]
    congr 1
    omega
  · rw [if_neg e, hf k (by omega), hg k (by omega)]
theorem gr_z6 {S : gS} {a k : Nat} (h : gr S) (ha : a = 14 ∨ a = 15) (hk : 6 ≤ k) : S a k = 0 := by
  have nk : ¬ k < 6 := by omega
  rcases ha with rfl | rfl <;> exact gr_z h (by simp [loV]) (by simp [hiV, nk])
theorem gr_z8 {S : gS} {a k : Nat} (h : gr S) (ha : 16 ≤ a ∧ a ≤ 21) (hk : 8 ≤ k) : S a k = 0 := by
  have nk : ¬ k < 8 := by omega
  rcases (show a = 16 ∨ a = 17 ∨ a = 18 ∨ a = 19 ∨ a = 20 ∨ a = 21 by omega) with rfl | rfl | rfl | rfl | rfl | rfl <;> exact gr_z h (by simp [loV, nk]) (by simp [hiV, nk])
section PH
variable {sc : si_Sc} {d g g2 : Nat} {μ : si_Mm} {Q : si_Po}
set_option maxHeartbeats 4000000 in
theorem p_become (hne : g ≠ g2) (h1 : gr (vw μ g)) (h2 : gr (vw μ g2)) (hq : ∀ μ', mr g μ μ' (vw μ g2) → Q none μ') : si_W sc d 13 0 [some (.inr (.inr (2, g))), some (.inr (.inr (2, g2)))] [] μ Q := by
  have s6 : ¬ (0 : Int32) < 0 ∧ ¬ (0 : Int32) < 0 ∧ ¬ (6 : Int32) < 0 ∧ (0 : Int32).toNatClampNeg + (6 : Int32).toNatClampNeg ≤ 6 ∧ (0 : Int32).toNatClampNeg + (6 : Int32).toNatClampNeg ≤ 6 := by decide
  have s8 : ¬ (0 : Int32) < 0 ∧ ¬ (0 : Int32) < 0 ∧ ¬ (8 : Int32) < 0 ∧ (0 : Int32).toNatClampNeg + (8 : Int32).toNatClampNeg ≤ 8 ∧ (0 : Int32).toNatClampNeg + (8 : Int32).toNatClampNeg ≤ 8 := by decide
  have c0 : (0 : Int32).toNatClampNeg = 0 := by decide
  have c6 : (6 : Int32).toNatClampNeg = 6 := by decide
  have c8 : (8 : Int32).toNatClampNeg = 8 := by decide
  refine k_X2_become_0 ⟨s6, s6, s8, s8, s8, s8, s8, s8, hq _ ?_⟩
  rw [c0, c6, c8]
  have hne' : ¬ g2 = g := fun e => hne e.symm
  refine ⟨?_, fun a i hn _ _ => ?_, ?_⟩
  · funext a
    by_cases ga : gt a = true
    · rw [vw_at ga, vw_at ga]
      have z1 : ∀ k, loV a k = 0 → hiV a k = 0 → μ.1 a g k = 0 := fun k e1 e2 => by have := gr_z h1 e1 e2; rw [vw_at ga] at this; exact this
      have z2 : ∀ k, loV a k = 0 → hiV a k = 0 → μ.1 a g2 k = 0 := fun k e1 e2 => by have := gr_z h2 e1 e2; rw [vw_at ga] at this; exact this
      have hc : a = 2 ∨ a = 14 ∨ a = 15 ∨ a = 16 ∨ a = 17 ∨ a = 18 ∨ a = 19 ∨ a = 20 ∨ a = 21 := by
        unfold gt at ga
        rw [Bool.or_eq_true, Bool.and_eq_true, Nat.beq_eq, Nat.ble_eq, Nat.ble_eq] at ga
        omega
      rcases hc with rfl | rfl | rfl | rfl | rfl | rfl | rfl | rfl | rfl
      · funext k
        by_cases k6 : k = 6
        · subst k6; simp [mc_eq, ms_eq, hne, hne']
        by_cases k5 : k = 5
        · subst k5; simp [mc_eq, ms_eq, hne, hne']
        by_cases k4 : k = 4
        · subst k4; simp [mc_eq, ms_eq, hne, hne']
        by_cases k3 : k = 3
        · subst k3; simp [mc_eq, ms_eq, hne, hne']
        by_cases k2 : k = 2
        · subst k2; simp [mc_eq, ms_eq, hne, hne']
        have l1 : loV 2 k = 0 := by simp [loV, k4, k2]
        have l2 : hiV 2 k = 0 := by simp [hiV, k2, k3, k4, k5, k6]
        simp [mc_eq, ms_eq, hne, hne', k6, k5, k4, k3, k2]
        rw [z1 k l1 l2, z2 k l1 l2]
      all_goals
        funext k
        simp [mc_eq, ms_eq, va_cpy, hne, hne']
        intro hk
        have l1 := z1 k (by simp [loV] <;> omega) (by simp [hiV] <;> omega)
        have l2 := z2 k (by simp [loV] <;> omega) (by simp [hiV] <;> omega)
        rw [l1, l2]
    · unfold vw
      rw [if_neg ga, if_neg ga]
  · have : ∀ b, gt b = true → ¬ (a = b ∧ i = g) := fun b hb e => hn ⟨by rw [e.1]; exact hb, e.2⟩
    have q2 := this 2 (by decide)
    have q14 := this 14 (by decide)
    have q15 := this 15 (by decide)
    have q16 := this 16 (by decide)
    have q17 := this 17 (by decide)
    have q18 := this 18 (by decide)
    have q19 := this 19 (by decide)
    have q20 := this 20 (by decide)
    have q21 := this 21 (by decide)
    funext k
    rw [mc_eq, if_neg q21, mc_eq, if_neg q20, mc_eq, if_neg q19, mc_eq, if_neg q18, mc_eq, if_neg q17, mc_eq, if_neg q16, mc_eq, if_neg q15, mc_eq, if_neg q14]
    rw [ms_eq, if_neg (fun q => q2 ⟨q.1, q.2.1⟩), ms_eq, if_neg (fun q => q2 ⟨q.1, q.2.1⟩), ms_eq, if_neg (fun q => q2 ⟨q.1, q.2.1⟩), ms_eq, if_neg (fun q => q2 ⟨q.1, q.2.1⟩), ms_eq, if_neg (fun q => q2 ⟨q.1, q.2.1⟩)]
  · simp only [mc_2, ms_2]
def y_come (S : gS) (x y : Int32) : gS := upS (upS (upS (upS (upS S 16 (gP S) x) 17 (gP S) y) 18 (gP S) (-1)) 21 (gP S) 0) 2 6 (nI (gP S + 1))
theorem p_comes {P : Nat} {x y : Int32} (hP : μ.1 2 g 6 = nI P) (hP8 : P ≤ 8) (hf : P = 8 → Q (some (.inl (-4))) μ) (hq : P < 8 → ∀ μ', mr g μ μ' (y_come (vw μ g) x y) → Q (some (.inl (nI P))) μ') : si_W sc d 16 0 [some (.inr (.inr (2, g))), some (.inl x), some (.inl y), none] [] μ Q := by
  have e8 : (8 : Int32) = nI 8 := rfl
  have cp : (nI P).toNatClampNeg = P := nI_c (by omega)
  refine k_X2_comes_0 ⟨fun h => ?_, fun h => ?_⟩
  · rw [hP, e8, nI_lt8 (by omega) (by omega)] at h
    rw [hP]
    have hin : vp_in (nI P) 8 := vp_in_nI h (by omega)
    refine ⟨hin, hin, hin, hin, hq h _ ?_⟩
    rw [cp, nI_1]
    have eP : gP (vw μ g) = P := by unfold gP; rw [vw_at (by decide), hP, cp]
    unfold y_come
    rw [eP, ← vw_ms (by decide), ← vw_ms (by decide), ← vw_ms (by decide), ← vw_ms (by decide)]
    exact ((((mr.ms (by decide)).tr (mr.ms (by decide))).tr (mr.ms (by decide))).tr (mr.ms (by decide))).tr (mr.ms (by decide))
  · rw [hP, e8, nI_lt8 (by omega) (by omega)] at h
    exact hf (by omega)
def wI (S : gS) (s : Nat) : Int32 := g_find (S 18) (nI s) (gP S) 0
def y_free (S : gS) : Nat → Nat → Int32 → Int32
  | 0, _, a => a
  | n + 1, k, a => y_free S n (k + 1) (if wI S k = -1 then a + 1 else a)
def y_low (S : gS) : Nat → Nat → Int32 → Int32
  | 0, _, a => a
  | n + 1, k, a => y_low S n (k + 1) (if S 2 3 ≤ S 14 k then a else a + 1)
theorem p_freeStrips {P : Nat} (hP : μ.1 2 g 6 = nI P) (hP8 : P ≤ 8) (hq : Q (some (.inl (y_free (vw μ g) 6 0 0))) μ) : si_W sc (d + 1) 20 0 [some (.inr (.inr (2, g))), none, none] [] μ Q := by
  have eP : gP (vw μ g) = P := by unfold gP; rw [vw_at (by decide), hP, nI_c (by omega)]
  have lp : ∀ (n k : Nat) (a : Int32), k + n = 6 → Q (some (.inl (y_free (vw μ g) n k a))) μ → si_W sc (d + 1) 20 4 [some (.inr (.inr (2, g))), some (.inl a), some (.inl (nI k))] [] μ Q := by
    intro n
    induction n with
    | zero => exact fun k a hk hq => k_X2_freeStrips_4 ⟨fun _ => hq, fun h => absurd ((n6 (by omega)).mpr (by omega)) h⟩
    | succ n ih =>
      intro k a hk hq
      refine k_X2_freeStrips_4 ⟨fun h => absurd ((n6 (by omega)).mp h) (by omega), fun _ => p_holder hP hP8 ?_⟩
      rw [y_free] at hq
      unfold wI at hq
      rw [vw_at (a := 18) (by decide), eP] at hq
      refine k_X2_freeStrips_15 ⟨fun h => ?_, fun h => ?_⟩
      · rw [if_neg h] at hq; rw [nI_1]; exact ih (k + 1) _ (by omega) hq
      · rw [if_pos h] at hq; rw [nI_1]; exact ih (k + 1) _ (by omega) hq
  exact k_X2_freeStrips_0 (lp 6 0 0 (by omega) hq)
theorem p_below (hq : Q (some (.inl (y_low (vw μ g) 6 0 0))) μ) : si_W sc d 21 0 [some (.inr (.inr (2, g))), none, none] [] μ Q := by
  have lp : ∀ (n k : Nat) (a : Int32), k + n = 6 → Q (some (.inl (y_low (vw μ g) n k a))) μ → si_W sc d 21 4 [some (.inr (.inr (2, g))), some (.inl a), some (.inl (nI k))] [] μ Q := by
    intro n
    induction n with
    | zero => exact fun k a hk hq => k_X2_stripsBelowLimit_4 ⟨fun _ => hq, fun h => absurd ((n6 (by omega)).mpr (by omega)) h⟩
    | succ n ih =>
      intro k a hk hq
      have ck : (nI k).toNatClampNeg = k := nI_c (by omega)
      rw [y_low, vw_at (a := 2) (by decide), vw_at (a := 14) (by decide)] at hq
      refine k_X2_stripsBelowLimit_4 ⟨fun h => absurd ((n6 (by omega)).mp h) (by omega), fun _ => ⟨vp_in_nI (by omega) (by omega), fun h => ?_, fun h => ?_⟩⟩
      · rw [ck] at h; rw [if_pos h] at hq; rw [nI_1]; exact ih (k + 1) _ (by omega) hq
      · rw [ck] at h; rw [if_neg h] at hq; rw [nI_1]; exact ih (k + 1) _ (by omega) hq
  exact k_X2_stripsBelowLimit_0 (lp 6 0 0 (by omega) hq)
def y_well (S : gS) : Int32 := g_sum (S 14) 6 0 0
theorem p_tendedWell (hq : Q (some (.inl (y_well (vw μ g)))) μ) : si_W sc d 22 0 [some (.inr (.inr (2, g))), none, none] [] μ Q := by
  have lp : ∀ (n k : Nat) (a : Int32), k + n = 6 → Q (some (.inl (g_sum (μ.1 14 g) n k a))) μ → si_W sc d 22 4 [some (.inr (.inr (2, g))), some (.inl a), some (.inl (nI k))] [] μ Q := by
    intro n
    induction n with
    | zero => exact fun k a hk hq => k_X2_tendedWell_4 ⟨fun _ => hq, fun h => absurd ((n6 (by omega)).mpr (by omega)) h⟩
    | succ n ih =>
      intro k a hk hq
      have ck : (nI k).toNatClampNeg = k := nI_c (by omega)
      rw [g_sum] at hq
      refine k_X2_tendedWell_4 ⟨fun h => absurd ((n6 (by omega)).mp h) (by omega), fun _ => ⟨vp_in_nI (by omega) (by omega), ?_⟩⟩
      rw [ck, nI_1]; exact ih (k + 1) _ (by omega) hq
  unfold y_well at hq
  rw [vw_at (by decide)] at hq
  exact k_X2_tendedWell_0 (lp 6 0 0 (by omega) hq)
noncomputable def y_ma (S : gS) (p : Nat) : Nat → Nat → Int32 → Int32
  | 0, _, a => a
  | n + 1, k, a => y_ma S p n (k + 1) (if S 18 k = -1 ∧ bc (ahead S k p) ≠ 0 then a + 1 else a)
noncomputable def y_ls (S : gS) (x : Int32) : Nat → Nat → Int32
  | 0, _ => -1
  | n + 1, k => if S 18 k = -1 ∧ y_ma S k (gP S) 0 0 = x then nI k else y_ls S x n (k + 1)
theorem p_manyAhead {P p : Nat} (hP : μ.1 2 g 6 = nI P) (hP8 : P ≤ 8) (hp : p < P) (hq : Q (some (.inl (y_ma (vw μ g) p P 0 0))) μ) : si_W sc (d + 1) 24 0 [some (.inr (.inr (2, g))), some (.inl (nI p)), none, none] [] μ Q := by
  have lp : ∀ (n k : Nat) (a : Int32), k + n = P → Q (some (.inl (y_ma (vw μ g) p n k a))) μ → si_W sc (d + 1) 24 4 [some (.inr (.inr (2, g))), some (.inl (nI p)), some (.inl a), some (.inl (nI k))] [] μ Q := by
    intro n
    induction n with
    | zero =>
      intro k a hk hq
      refine k_X2_manyAhead_4 ⟨fun _ => hq, fun h => absurd ?_ h⟩
      rw [hP, nI_le8 (by omega) (by omega)]; omega
    | succ n ih =>
      intro k a hk hq
      have ck : (nI k).toNatClampNeg = k := nI_c (by omega)
      rw [y_ma, vw_at (a := 18) (by decide)] at hq
      refine k_X2_manyAhead_4 ⟨fun h => ?_, fun _ => ⟨vp_in_nI (by omega) (by omega), fun h => ?_, fun h => ?_⟩⟩
      · rw [hP, nI_le8 (by omega) (by omega)] at h; omega
      · rw [ck] at h; rw [if_neg (fun q => h q.1)] at hq; rw [nI_1]; exact ih (k + 1) _ (by omega) hq
      · rw [ck] at h
        refine p_isAhead (by omega) (by omega) ?_
        refine k_X2_manyAhead_28 ⟨fun h2 => ?_, fun h2 => ?_⟩
        · rw [if_neg (fun q => q.2 h2)] at hq; rw [nI_1]; exact ih (k + 1) _ (by omega) hq
        · rw [if_pos ⟨h, h2⟩] at hq; rw [nI_1]; exact ih (k + 1) _ (by omega) hq
  exact k_X2_manyAhead_0 (lp P 0 0 (by omega) hq)
theorem p_listed {P : Nat} {x : Int32} (hP : μ.1 2 g 6 = nI P) (hP8 : P ≤ 8) (hq : Q (some (.inl (y_ls (vw μ g) x P 0))) μ) : si_W sc (d + 2) 25 0 [some (.inr (.inr (2, g))), some (.inl x), none] [] μ Q := by
  have eP : gP (vw μ g) = P := by unfold gP; rw [vw_at (by decide), hP, nI_c (by omega)]
  have lp : ∀ (n k : Nat), k + n = P → Q (some (.inl (y_ls (vw μ g) x n k))) μ → si_W sc (d + 2) 25 2 [some (.inr (.inr (2, g))), some (.inl x), some (.inl (nI k))] [] μ Q := by
    intro n
    induction n with
    | zero =>
      intro k hk hq
      refine k_X2_listed_2 ⟨fun _ => hq, fun h => absurd ?_ h⟩
      rw [hP, nI_le8 (by omega) (by omega)]; omega
    | succ n ih =>
      intro k hk hq
      have ck : (nI k).toNatClampNeg = k := nI_c (by omega)
      rw [y_ls, vw_at (a := 18) (by decide), eP] at hq
      refine k_X2_listed_2 ⟨fun h => ?_, fun _ => ⟨vp_in_nI (by omega) (by omega), fun h => ?_, fun h => ?_⟩⟩
      · rw [hP, nI_le8 (by omega) (by omega)] at h; omega
      · rw [ck] at h; rw [if_neg (fun q => h q.1)] at hq; rw [nI_1]; exact ih (k + 1) (by omega) hq
      · rw [ck] at h
        refine p_manyAhead hP hP8 (by omega) ?_
        refine k_X2_listed_25 ⟨fun h2 => ?_, fun h2 => ?_⟩
        · rw [if_neg (fun q => h2 q.2)] at hq; rw [nI_1]; exact ih (k + 1) (by omega) hq
        · rw [if_pos ⟨h, h2⟩] at hq; exact hq
  exact k_X2_listed_0 (lp P 0 (by omega) hq)
/-- n years -/
noncomputable def y_ys (V : Nat → Nat → (Nat → Int32) → Int32) : Nat → gS → gS
  | 0, S => S
  | n + 1, S => y_ys V n (y_year V S)
theorem p_wellAfter {n N : Nat} {e : Nat → Nat} (hN : N ≤ 1000) (hb : bk μ n e) (hw : gw (vw μ g) n) (hq : ∀ μ', mr g μ μ' (y_ys (y_V (μ.1 10 0) e) N (vw μ g)) → Q (some (.inl (y_well (y_ys (y_V (μ.1 10 0) e) N (vw μ g))))) μ') : si_W sc (d + 5) 37 0 [some (.inr (.inr (2, g))), some (.inl (nI N)), none] [] μ Q := by
  have lp : ∀ (m k : Nat) (μ : si_Mm), k + m = N → bk μ n e → gw (vw μ g) n → (∀ μ', mr g μ μ' (y_ys (y_V (μ.1 10 0) e) m (vw μ g)) → Q (some (.inl (y_well (y_ys (y_V (μ.1 10 0) e) m (vw μ g))))) μ') → si_W sc (d + 5) 37 2 [some (.inr (.inr (2, g))), some (.inl (nI N)), some (.inl (nI k))] [] μ Q := by
    intro m
    induction m with
    | zero =>
      intro k μ hk hb hw hq
      refine k_X2_wellAfter_2 ⟨fun _ => p_tendedWell (k_X2_wellAfter_21 (hq μ mr.rf)), fun h => absurd ?_ h⟩
      rw [nI_le8 (by omega) (by omega)]; omega
    | succ m ih =>
      intro k μ hk hb hw hq
      refine k_X2_wellAfter_2 ⟨fun h => ?_, fun _ => p_passYear hb hw ?_⟩
      · rw [nI_le8 (by omega) (by omega)] at h; omega
      · intro μ1 m1
        refine k_X2_wellAfter_11 ?_
        rw [nI_1]
        refine ih (k + 1) μ1 (by omega) (m1.bk hb) (by rw [m1.1]; exact gw_year hw) ?_
        rw [m1.cd, m1.1]
        exact fun μ2 m2 => hq μ2 (m1.tr m2)
  exact k_X2_wellAfter_0 (lp N 0 μ (by omega) hb hw hq)
end PH
theorem gw_ys {V : Nat → Nat → (Nat → Int32) → Int32} {n : Nat} : ∀ (m : Nat) (S : gS), gw S n → gw (y_ys V m S) n
  | 0, _, h => h
  | m + 1, S, h => gw_ys m (y_year V S) (gw_year h)
theorem gr_ys {V : Nat → Nat → (Nat → Int32) → Int32} {n : Nat} (hV : vr V) : ∀ (m : Nat) (S : gS), gw S n → gr S → gr (y_ys V m S)
  | 0, _, _, h => h
  | m + 1, S, hg, h => gr_ys hV m (y_year V S) (gw_year hg) (gr_year hV hg h)
