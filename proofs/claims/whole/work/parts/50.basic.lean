/-! PURE: numbers and small things that both sides share -/
def bi (p : Prop) [Decidable p] : Int32 := if p then 1 else 0
theorem bi_t {p : Prop} [Decidable p] (h : p) : bi p = 1 := if_pos h
theorem bi_f {p : Prop} [Decidable p] (h : ¬ p) : bi p = 0 := if_neg h
theorem bi_01 (p : Prop) [Decidable p] : bi p = 0 ∨ bi p = 1 := by
  by_cases h : p
  · exact Or.inr (bi_t h)
  · exact Or.inl (bi_f h)
theorem bi_0 {p : Prop} [Decidable p] : bi p = 0 ↔ ¬ p := by
  by_cases h : p
  · rw [bi_t h]; exact ⟨fun e => absurd e (by decide), fun e => absurd h e⟩
  · rw [bi_f h]; exact ⟨fun _ => h, fun _ => rfl⟩
theorem bi_iff {p q : Prop} [Decidable p] [Decidable q] (h : p ↔ q) : bi p = bi q := by
  by_cases hp : p
  · rw [bi_t hp, bi_t (h.mp hp)]
  · rw [bi_f hp, bi_f (fun hq => hp (h.mpr hq))]
theorem ms_eq (μ : si_Mm) (a i k : Nat) (v : Int32) (a' i' k' : Nat) : (si_ms μ a i k v).1 a' i' k' = if a' = a ∧ i' = i ∧ k' = k then v else μ.1 a' i' k' := rfl
theorem mc_eq (μ : si_Mm) (t0 i0 sp a i dp n : Nat) (a' i' k' : Nat) : (si_mc μ t0 i0 sp a i dp n).1 a' i' k' = if a' = a ∧ i' = i then va_cpy (μ.1 t0 i0) (μ.1 a i) sp dp n k' else μ.1 a' i' k' := rfl
theorem ms_2 (μ : si_Mm) (a i k : Nat) (v : Int32) : (si_ms μ a i k v).2 = μ.2 := rfl
theorem mc_2 (μ : si_Mm) (t0 i0 sp a i dp n : Nat) : (si_mc μ t0 i0 sp a i dp n).2 = μ.2 := rfl
theorem i_nlt {x y : Int32} : ¬ x < y ↔ y ≤ x := by
  rw [Int32.lt_iff_toInt_lt, Int32.le_iff_toInt_le]; omega
theorem i_nle {x y : Int32} : ¬ x ≤ y ↔ y < x := by
  rw [Int32.lt_iff_toInt_lt, Int32.le_iff_toInt_le]; omega
/-- the first place from i on, of n, at which f is x -/
def g_find (f : Nat → Int32) (x : Int32) : Nat → Nat → Int32
  | 0, _ => -1
  | n + 1, i => if f i = x then nI i else g_find f x n (i + 1)
/-- how many of n places from i on have x, beyond a -/
def g_cnt (f : Nat → Int32) (x : Int32) : Nat → Nat → Int32 → Int32
  | 0, _, a => a
  | n + 1, i, a => if f i = x then g_cnt f x n (i + 1) (a + 1) else g_cnt f x n (i + 1) a
def g_sum (f : Nat → Int32) : Nat → Nat → Int32 → Int32
  | 0, _, a => a
  | n + 1, i, a => g_sum f n (i + 1) (a + f i)
theorem g_find_cong {f f' : Nat → Int32} {x : Int32} : ∀ (n i : Nat), (∀ k, i ≤ k → k < i + n → f k = f' k) → g_find f x n i = g_find f' x n i
  | 0, _, _ => rfl
  | n + 1, i, h => by
    rw [g_find, g_find, h i (Nat.le_refl _) (by omega), g_find_cong n (i + 1) (fun k h1 h2 => h k (by omega) (by omega))]
theorem g_cnt_cong {f f' : Nat → Int32} {x : Int32} : ∀ (n i : Nat) (a : Int32), (∀ k, i ≤ k → k < i + n → f k = f' k) → g_cnt f x n i a = g_cnt f' x n i a
  | 0, _, _, _ => rfl
  | n + 1, i, a, h => by
    rw [g_cnt, g_cnt, h i (Nat.le_refl _) (by omega), g_cnt_cong n (i + 1) _ (fun k h1 h2 => h k (by omega) (by omega)), g_cnt_cong n (i + 1) _ (fun k h1 h2 => h k (by omega) (by omega))]
theorem g_sum_cong {f f' : Nat → Int32} : ∀ (n i : Nat) (a : Int32), (∀ k, i ≤ k → k < i + n → f k = f' k) → g_sum f n i a = g_sum f' n i a
  | 0, _, _, _ => rfl
  | n + 1, i, a, h => by
    rw [g_sum, g_sum, h i (Nat.le_refl _) (by omega), g_sum_cong n (i + 1) _ (fun k h1 h2 => h k (by omega) (by omega))]
theorem nI_8 {P k : Nat} (h : P ≤ 8) (hk : k < P) : vp_in (nI k) 8 := vp_in_nI (by omega) (by omega)
theorem nI_le8 {P k : Nat} (hP : P ≤ 1000) (hk : k ≤ 1000) : nI P ≤ nI k ↔ P ≤ k := nI_leI (by omega) (by omega)
theorem nI_lt8 {P k : Nat} (hP : P ≤ 1000) (hk : k ≤ 1000) : nI P < nI k ↔ P < k := nI_ltI (by omega) (by omega)
theorem nI_c {k : Nat} (hk : k ≤ 1000) : (nI k).toNatClampNeg = k := nI_clamp (by omega)
section PB
variable {sc : si_Sc} {d g : Nat} {μ : si_Mm} {Q : si_Po} {x y z : Int32}
theorem p_isWithin (hq : Q (some (.inl (bi (y ≤ x ∧ x ≤ z)))) μ) : si_W sc d 75 0 [some (.inl x), some (.inl y), some (.inl z)] [] μ Q := by
  refine k_X6_isWithin_0 ⟨fun h => ⟨Or.inl rfl, ?_⟩, fun h => ⟨fun h2 => ⟨Or.inl rfl, ?_⟩, fun h2 => ⟨Or.inr rfl, ?_⟩⟩⟩
  · rw [bi_f (fun e => i_nlt.mpr e.1 h)] at hq; exact hq
  · rw [bi_f (fun e => i_nlt.mpr e.2 h2)] at hq; exact hq
  · rw [bi_t ⟨i_nlt.mp h, i_nlt.mp h2⟩] at hq; exact hq
theorem p_isStrip (hq : Q (some (.inl (bi (0 ≤ x ∧ x ≤ 5)))) μ) : si_W sc (d + 1) 77 0 [some (.inl x)] [] μ Q := by
  refine k_X6_isStrip_0 (p_isWithin ?_)
  exact k_X6_isStrip_6 ⟨bi_01 _, hq⟩
theorem p_isSheet (hq : Q (some (.inl (bi (0 ≤ x ∧ x ≤ 3)))) μ) : si_W sc (d + 1) 102 0 [some (.inl x)] [] μ Q := by
  refine k_X6_isSheet_0 (p_isWithin ?_)
  exact k_X6_isSheet_6 ⟨bi_01 _, hq⟩
theorem p_isSpan (hq : Q (some (.inl (bi (0 ≤ x ∧ x ≤ 30)))) μ) : si_W sc (d + 1) 90 0 [some (.inl x)] [] μ Q := by
  refine k_X6_isSpan_0 (p_isWithin ?_)
  exact k_X6_isSpan_7 ⟨bi_01 _, hq⟩
theorem p_isFoundOrWell (hq : Q (some (.inl (bi (0 ≤ x ∧ x ≤ 1)))) μ) : si_W sc (d + 1) 96 0 [some (.inl x)] [] μ Q := by
  refine k_X6_isFoundOrWell_0 (p_isWithin ?_)
  exact k_X6_isFoundOrWell_6 ⟨bi_01 _, hq⟩
theorem p_isPerson {P : Nat} (hP : μ.1 2 g 6 = nI P) (hP8 : P ≤ 8) (hq : Q (some (.inl (bi (0 ≤ x ∧ x < nI P)))) μ) : si_W sc d 14 0 [some (.inr (.inr (2, g))), some (.inl x)] [] μ Q := by
  refine k_X2_isPerson_0 ⟨fun h => ⟨Or.inl rfl, ?_⟩, fun h => ⟨fun h2 => ⟨Or.inl rfl, ?_⟩, fun h2 => ⟨fun h3 => ⟨Or.inl rfl, ?_⟩, fun h3 => ⟨Or.inr rfl, ?_⟩⟩⟩⟩
  · rw [bi_f (fun e => i_nlt.mpr e.1 h)] at hq; exact hq
  · rw [hP] at h2; rw [bi_f (fun e => i_nle.mpr e.2 h2)] at hq; exact hq
  · rw [bi_f (fun e => ?_)] at hq
    · exact hq
    · rw [hP] at h2
      have e8 : (8 : Int32) = nI 8 := rfl
      rw [e8, Int32.le_iff_toInt_le, nI_toInt (by omega)] at h3
      have e2 := e.2
      rw [Int32.lt_iff_toInt_lt, nI_toInt (by omega)] at e2
      omega
  · rw [hP] at h2; rw [bi_t ⟨i_nlt.mp h, i_nle.mp h2⟩] at hq; exact hq
theorem p_hasStrip {k : Nat} (hk : k < 8) (hq : Q (some (.inl (bi (0 ≤ μ.1 18 g k)))) μ) : si_W sc d 15 0 [some (.inr (.inr (2, g))), some (.inl (nI k))] [] μ Q := by
  have hc : (nI k).toNatClampNeg = k := nI_c (by omega)
  refine k_X2_hasStrip_0 ⟨vp_in_nI hk (by omega), fun h => ⟨Or.inl rfl, ?_⟩, fun h => ⟨Or.inr rfl, ?_⟩⟩
  · rw [hc] at h
    rw [bi_f (i_nle.mpr h)] at hq; exact hq
  · rw [hc] at h
    rw [bi_t (i_nlt.mp h)] at hq; exact hq
theorem p_holder_lp {P : Nat} (hP : μ.1 2 g 6 = nI P) (hP8 : P ≤ 8) : ∀ (n k : Nat), k + n = P → Q (some (.inl (g_find (μ.1 18 g) x n k))) μ → si_W sc d 18 2 [some (.inr (.inr (2, g))), some (.inl x), some (.inl (nI k))] [] μ Q := by
  intro n
  induction n with
  | zero =>
    intro k hk hq
    refine k_X2_holder_2 ⟨fun _ => hq, fun h => absurd ?_ h⟩
    rw [hP, nI_le8 (by omega) (by omega)]; omega
  | succ n ih =>
    intro k hk hq
    have hc : (nI k).toNatClampNeg = k := nI_c (by omega)
    refine k_X2_holder_2 ⟨fun h => ?_, fun _ => ⟨nI_8 hP8 (by omega), fun h => ?_, fun h => ?_⟩⟩
    · rw [hP, nI_le8 (by omega) (by omega)] at h; omega
    · rw [hc] at h
      rw [nI_1]
      refine ih (k + 1) (by omega) ?_
      rw [g_find, if_neg h] at hq
      exact hq
    · rw [hc] at h
      rw [g_find, if_pos h] at hq
      exact hq
theorem p_holder {P : Nat} (hP : μ.1 2 g 6 = nI P) (hP8 : P ≤ 8) (hq : Q (some (.inl (g_find (μ.1 18 g) x P 0))) μ) : si_W sc d 18 0 [some (.inr (.inr (2, g))), some (.inl x), none] [] μ Q :=
  k_X2_holder_0 (p_holder_lp hP hP8 P 0 (by omega) hq)
theorem p_peopleAt_lp {P : Nat} (hP : μ.1 2 g 6 = nI P) (hP8 : P ≤ 8) : ∀ (n k : Nat) (a : Int32), k + n = P → Q (some (.inl (g_cnt (μ.1 18 g) x n k a))) μ → si_W sc d 19 4 [some (.inr (.inr (2, g))), some (.inl x), some (.inl a), some (.inl (nI k))] [] μ Q := by
  intro n
  induction n with
  | zero =>
    intro k a hk hq
    refine k_X2_peopleAt_4 ⟨fun _ => hq, fun h => absurd ?_ h⟩
    rw [hP, nI_le8 (by omega) (by omega)]; omega
  | succ n ih =>
    intro k a hk hq
    have hc : (nI k).toNatClampNeg = k := nI_c (by omega)
    refine k_X2_peopleAt_4 ⟨fun h => ?_, fun _ => ⟨nI_8 hP8 (by omega), fun h => ?_, fun h => ?_⟩⟩
    · rw [hP, nI_le8 (by omega) (by omega)] at h; omega
    · rw [hc] at h
      rw [nI_1]
      refine ih (k + 1) a (by omega) ?_
      rw [g_cnt, if_neg h] at hq
      exact hq
    · rw [hc] at h
      rw [nI_1]
      refine ih (k + 1) (a + 1) (by omega) ?_
      rw [g_cnt, if_pos h] at hq
      exact hq
theorem p_peopleAt {P : Nat} (hP : μ.1 2 g 6 = nI P) (hP8 : P ≤ 8) (hq : Q (some (.inl (g_cnt (μ.1 18 g) x P 0 0))) μ) : si_W sc d 19 0 [some (.inr (.inr (2, g))), some (.inl x), none, none] [] μ Q :=
  k_X2_peopleAt_0 (p_peopleAt_lp hP hP8 P 0 0 (by omega) hq)
end PB
