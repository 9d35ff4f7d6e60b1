/-! change; the sheets -/
abbrev shT : Type := (Nat → Int32) × (Nat → Nat) × (Nat → Nat → Int32)
def fu {α : Type} (f : Nat → α) (k : Nat) (v : α) : Nat → α := fun k' => if k' = k then v else f k'
theorem fu_eq {α : Type} {f : Nat → α} {k : Nat} {v : α} : fu f k v k = v := if_pos rfl
theorem fu_ne {α : Type} {f : Nat → α} {k k' : Nat} {v : α} (h : k' ≠ k) : fu f k v k' = f k' := if_neg h
/-- the class's sheets are R: sort (-1: missing), size, items -/
def CR (μ : si_Mm) (R : shT) : Prop := ∀ t, t < 4 → μ.1 23 0 t = R.1 t ∧ μ.1 24 0 t = nI (R.2.1 t) ∧ R.2.1 t ≤ 40 ∧ ∀ i, i < R.2.1 t → μ.1 22 0 (40 * t + i) = R.2.2 t i
def fr4 (μ μ' : si_Mm) : Prop := (∀ a i, a ≠ 23 → a ≠ 24 → a ≠ 22 → μ'.1 a i = μ.1 a i) ∧ μ'.2 = μ.2
theorem fr4.rf {μ : si_Mm} : fr4 μ μ := ⟨fun _ _ _ _ _ => rfl, rfl⟩
theorem fr4.tr {μ1 μ2 μ3 : si_Mm} (h : fr4 μ1 μ2) (g : fr4 μ2 μ3) : fr4 μ1 μ3 := ⟨fun a i e1 e2 e3 => (g.1 a i e1 e2 e3).trans (h.1 a i e1 e2 e3), g.2.trans h.2⟩
def r_lay (R : shT) (t : Nat) (so : Int32) (z : Nat) : shT := (fu R.1 t so, fu R.2.1 t z, fu R.2.2 t (fun _ => 0))
def cv (so v : Int32) : Int32 := if so = 0 then (Int32.toInt8 v).toInt32 else if so = 1 then (Int32.toInt16 v).toInt32 else v
def r_put (R : shT) (t i : Nat) (v : Int32) : shT := (R.1, R.2.1, fu R.2.2 t (fu (R.2.2 t) i (cv (R.1 t) v)))
def r_copy (R : shT) (s i o j n : Nat) : shT := (R.1, R.2.1, fu R.2.2 o (fun k => if j ≤ k ∧ k < j + n then R.2.2 s (i + (k - j)) else R.2.2 o k))
theorem nI_40 {t i : Nat} : nI t * 40 + nI i = nI (40 * t + i) := by
  have e : (40 : Int32) = nI 40 := rfl
  rw [e, pk_mul, nI_add, Nat.mul_comm]
theorem sh_n {s : Int32} (h : 0 ≤ s ∧ s ≤ 3) : ∃ k, k < 4 ∧ s = nI k := by
  obtain ⟨h1, h2⟩ := h
  have e5 : (3 : Int32).toInt = 3 := by decide
  rw [i_le, i_0] at h1
  rw [i_le, e5] at h2
  exact ⟨s.toInt.toNat, by omega, by rw [i_eq, nI_toInt (by omega)]; omega⟩
/-- n items from item i on stand in a sheet of z -/
def hold (z : Nat) (i n : Int32) : Prop := 0 ≤ n ∧ 0 ≤ i ∧ i ≤ nI z - n
theorem hold_n {z : Nat} {i n : Int32} (hz : z ≤ 40) (h : hold z i n) : ∃ a b, i = nI a ∧ n = nI b ∧ a + b ≤ z := by
  obtain ⟨h1, h2, h3⟩ := h
  rw [i_le, i_0] at h1 h2
  have hr := fb_rng0 n
  rw [i_le, i_sub (by rw [nI_toInt (by omega)]; omega) (by rw [nI_toInt (by omega)]; omega), nI_toInt (by omega)] at h3
  exact ⟨i.toInt.toNat, n.toInt.toNat, by rw [i_eq, nI_toInt (by omega)]; omega, by rw [i_eq, nI_toInt (by omega)]; omega, by omega⟩
theorem hold_1 {z k : Nat} (hz : z ≤ 40) (h : k < z) : hold z (nI k) 1 := by
  refine ⟨by decide, nI_pos' (by omega), ?_⟩
  rw [i_le, i_sub (by rw [nI_toInt (by omega), i_1]; omega) (by rw [nI_toInt (by omega), i_1]; omega), nI_toInt (by omega), nI_toInt (by omega), i_1]
  omega
section PR
variable {sc : si_Sc} {d : Nat} {μ : si_Mm} {Q : si_Po} {R : shT} {t : Nat}
theorem p_isMissing (h : CR μ R) (ht : t < 4) (hq : Q (some (.inl (bc (R.1 t = -1)))) μ) : si_W sc d 53 0 [some (.inr (.inr (4, 0))), some (.inl (nI t))] [] μ Q := by
  have ct : (nI t).toNatClampNeg = t := nI_c (by omega)
  refine k_X4_isMissing_0 ⟨vp_in_nI ht (by omega), fun hz => ⟨b0, ?_⟩, fun hz => ⟨b1, ?_⟩⟩
  · rw [ct, (h t ht).1] at hz; rw [bc_f hz] at hq; exact hq
  · rw [ct, (h t ht).1] at hz; rw [bc_t hz] at hq; exact hq
theorem p_holds {x y : Int32} (h : CR μ R) (ht : t < 4) (hq : Q (some (.inl (bc (hold (R.2.1 t) x y)))) μ) : si_W sc d 55 0 [some (.inr (.inr (4, 0))), some (.inl (nI t)), some (.inl x), some (.inl y)] [] μ Q := by
  have ct : (nI t).toNatClampNeg = t := nI_c (by omega)
  refine k_X4_holds_0 ⟨fun h1 => ⟨b0, ?_⟩, fun h1 => ⟨fun h2 => ⟨b0, ?_⟩, fun h2 => ⟨vp_in_nI ht (by omega), fun h3 => ⟨b0, ?_⟩, fun h3 => ⟨b1, ?_⟩⟩⟩⟩
  · rw [bc_f (fun a => i_nlt.mpr a.1 h1)] at hq; exact hq
  · rw [bc_f (fun a => i_nlt.mpr a.2.1 h2)] at hq; exact hq
  · rw [ct, (h t ht).2.1] at h3
    rw [bc_f (fun a => i_nlt.mpr a.2.2 h3)] at hq; exact hq
  · rw [ct, (h t ht).2.1] at h3
    rw [bc_t (p := hold (R.2.1 t) x y) ⟨i_nlt.mp h1, i_nlt.mp h2, i_nlt.mp h3⟩] at hq; exact hq
theorem p_at {k : Nat} (h : CR μ R) (ht : t < 4) (hk : k < R.2.1 t) (hq : Q (some (.inl (R.2.2 t k))) μ) : si_W sc (d + 1) 56 0 [some (.inr (.inr (4, 0))), some (.inl (nI t)), some (.inl (nI k))] [] μ Q := by
  obtain ⟨h1, h2, h3, h4⟩ := h t ht
  refine k_X4_at_0 (p_holds h ht (k_X4_at_7 ⟨fun hz => absurd (hold_1 h3 hk) (bc_0 hz), fun _ => ⟨?_, ?_⟩⟩))
  · rw [nI_40]; exact vp_in_nI (by omega) (by omega)
  · rw [nI_40, nI_c (by omega), h4 k hk]; exact hq
theorem CR_put {k : Nat} {v : Int32} (h : CR μ R) (ht : t < 4) (hk : k < R.2.1 t) : CR (si_ms μ 22 0 (40 * t + k) (cv (R.1 t) v)) (r_put R t k v) := by
  intro t' ht'
  obtain ⟨h1, h2, h3, h4⟩ := h t' ht'
  obtain ⟨g1, g2, g3, g4⟩ := h t ht
  refine ⟨?_, ?_, h3, fun i hi => ?_⟩
  · rw [ms_eq, if_neg (by simp)]; exact h1
  · rw [ms_eq, if_neg (by simp)]; exact h2
  · have hi' : i < R.2.1 t' := hi
    unfold r_put
    dsimp only
    rw [ms_eq]
    by_cases e1 : t' = t
    · subst e1
      rw [fu_eq]
      by_cases e2 : i = k
      · subst e2; rw [if_pos ⟨rfl, rfl, rfl⟩, fu_eq]
      · rw [if_neg (by omega), fu_ne e2]; exact h4 i hi
    · rw [if_neg (by omega), fu_ne e1]; exact h4 i hi
theorem p_put {k : Nat} {v : Int32} (h : CR μ R) (ht : t < 4) (hk : k < R.2.1 t) (hq : ∀ μ', fr4 μ μ' → CR μ' (r_put R t k v) → Q none μ') : si_W sc (d + 1) 57 0 [some (.inr (.inr (4, 0))), some (.inl (nI t)), some (.inl (nI k)), some (.inl v)] [] μ Q := by
  obtain ⟨h1, h2, h3, h4⟩ := h t ht
  have ct : (nI t).toNatClampNeg = t := nI_c (by omega)
  have hin : vp_in (nI t) 4 := vp_in_nI ht (by omega)
  have hin2 : vp_in (nI t * 40 + nI k) 160 := by rw [nI_40]; exact vp_in_nI (by omega) (by omega)
  have hp := CR_put (v := v) h ht hk
  have hf : ∀ w, fr4 μ (si_ms μ 22 0 (40 * t + k) w) := fun w => ⟨fun a i _ _ e => si_ms_ne μ _ _ (fun q => e (congrArg Prod.fst q)), rfl⟩
  unfold cv at hp
  refine k_X4_put_0 (p_holds h ht (k_X4_put_7 ⟨fun hz => absurd (hold_1 h3 hk) (bc_0 hz), fun _ => ⟨hin, fun hs => ⟨hin, fun hs1 => ⟨hin2, ?_⟩, fun hs1 => ⟨hin2, ?_⟩⟩, fun hs => ⟨hin2, ?_⟩⟩⟩))
  · rw [ct, h1] at hs hs1
    rw [if_neg hs, if_neg hs1] at hp
    rw [nI_40, nI_c (by omega)]; exact hq _ (hf _) hp
  · rw [ct, h1] at hs hs1
    rw [if_neg hs, if_pos hs1] at hp
    rw [nI_40, nI_c (by omega)]; exact hq _ (hf _) hp
  · rw [ct, h1] at hs
    rw [if_pos hs] at hp
    rw [nI_40, nI_c (by omega)]; exact hq _ (hf _) hp
theorem p_lay {so : Int32} {z : Nat} (h : CR μ R) (ht : t < 4) (hz : z ≤ 40) (hq : ∀ μ', fr4 μ μ' → CR μ' (r_lay R t so z) → Q none μ') : si_W sc d 54 0 [some (.inr (.inr (4, 0))), some (.inl (nI t)), some (.inl so), some (.inl (nI z)), none] [] μ Q := by
  have ct : (nI t).toNatClampNeg = t := nI_c (by omega)
  have hin : vp_in (nI t) 4 := vp_in_nI ht (by omega)
  have e40 : (40 : Int32) = nI 40 := rfl
  refine k_X4_lay_0 ⟨hin, hin, ?_⟩
  rw [ct]
  have lp : ∀ (m k : Nat) (μ1 : si_Mm), k + m = 40 → fr4 μ μ1 → (∀ t', t' < 4 → μ1.1 23 0 t' = fu R.1 t so t' ∧ μ1.1 24 0 t' = nI (fu R.2.1 t z t') ∧ (∀ i, i < 40 → t' ≠ t → μ1.1 22 0 (40 * t' + i) = μ.1 22 0 (40 * t' + i)) ∧ ∀ i, t' = t → i < k → μ1.1 22 0 (40 * t' + i) = 0) → si_W sc d 54 17 [some (.inr (.inr (4, 0))), some (.inl (nI t)), some (.inl so), some (.inl (nI z)), some (.inl (nI k))] [] μ1 Q := by
    intro m
    induction m with
    | zero =>
      intro k μ1 hk hf hi
      refine k_X4_lay_17 ⟨fun _ => hq μ1 hf fun t' ht' => ?_, fun hn => absurd ?_ hn⟩
      · obtain ⟨a1, a2, a3, a4⟩ := hi t' ht'
        obtain ⟨h1, h2, h3, h4⟩ := h t' ht'
        unfold r_lay
        refine ⟨a1, a2, ?_, fun i hi2 => ?_⟩
        · dsimp only
          by_cases e1 : t' = t
          · rw [e1, fu_eq]; exact hz
          · rw [fu_ne e1]; exact h3
        · dsimp only at hi2 ⊢
          by_cases e1 : t' = t
          · rw [a4 i e1 (by rw [e1, fu_eq] at hi2; omega), e1, fu_eq]
          · rw [fu_ne e1] at hi2 ⊢
            rw [a3 i (by omega) e1]; exact h4 i hi2
      · rw [e40, nI_le8 (by omega) (by omega)]; omega
    | succ m ih =>
      intro k μ1 hk hf hi
      refine k_X4_lay_17 ⟨fun hn => ?_, fun _ => ⟨?_, ?_⟩⟩
      · rw [e40, nI_le8 (by omega) (by omega)] at hn; omega
      · rw [nI_40]; exact vp_in_nI (by omega) (by omega)
      · rw [nI_40, nI_c (by omega), nI_1]
        refine ih (k + 1) _ (by omega) (hf.tr ⟨fun a i _ _ e => si_ms_ne _ _ _ (fun q => e (congrArg Prod.fst q)), rfl⟩) fun t' ht' => ?_
        obtain ⟨a1, a2, a3, a4⟩ := hi t' ht'
        refine ⟨?_, ?_, fun i hi1 e1 => ?_, fun i e1 hi1 => ?_⟩
        · rw [ms_eq, if_neg (by simp)]; exact a1
        · rw [ms_eq, if_neg (by simp)]; exact a2
        · rw [ms_eq, if_neg (by omega)]; exact a3 i hi1 e1
        · rw [ms_eq]
          by_cases e2 : i = k
          · rw [if_pos ⟨rfl, rfl, by omega⟩]
          · rw [if_neg (by omega)]; exact a4 i e1 (by omega)
  refine lp 40 0 _ (by omega) ⟨fun a i e1 e2 _ => ?_, rfl⟩ fun t' ht' => ?_
  · rw [si_ms_ne _ _ _ (fun q => e2 (congrArg Prod.fst q)), si_ms_ne _ _ _ (fun q => e1 (congrArg Prod.fst q))]
  · obtain ⟨h1, h2, h3, h4⟩ := h t' ht'
    refine ⟨?_, ?_, fun i _ _ => ?_, fun i _ hi => absurd hi (Nat.not_lt_zero i)⟩
    · rw [ms_eq, if_neg (by simp), ms_eq]
      by_cases e1 : t' = t
      · rw [if_pos ⟨rfl, rfl, e1⟩, e1, fu_eq]
      · rw [if_neg (fun q => e1 q.2.2), fu_ne e1]; exact h1
    · rw [ms_eq]
      by_cases e1 : t' = t
      · rw [if_pos ⟨rfl, rfl, e1⟩, e1, fu_eq]
      · rw [if_neg (fun q => e1 q.2.2), fu_ne e1, ms_eq, if_neg (by simp)]; exact h2
    · rw [ms_eq, if_neg (by simp), ms_eq, if_neg (by simp)]
theorem p_move {o i j m : Nat} (h : CR μ R) (ht : t < 4) (ho : o < 4) (hi : i + m ≤ R.2.1 t) (hj : j + m ≤ R.2.1 o) (hq : ∀ μ', fr4 μ μ' → CR μ' (r_copy R t i o j m) → Q none μ') : si_W sc d 58 0 [some (.inr (.inr (4, 0))), some (.inl (nI t)), some (.inl (nI i)), some (.inl (nI o)), some (.inl (nI j)), some (.inl (nI m))] [] μ Q := by
  obtain ⟨h1, h2, h3, h4⟩ := h t ht
  obtain ⟨g1, g2, g3, g4⟩ := h o ho
  have c1 : (nI (40 * t + i)).toNatClampNeg = 40 * t + i := nI_c (by omega)
  have c2 : (nI (40 * o + j)).toNatClampNeg = 40 * o + j := nI_c (by omega)
  have c3 : (nI m).toNatClampNeg = m := nI_c (by omega)
  refine k_X4_move_0 ⟨?_, ?_⟩
  · rw [nI_40, nI_40, c1, c2, c3]
    exact ⟨nI_pos (by omega), nI_pos (by omega), nI_pos (by omega), by omega, by omega⟩
  · rw [nI_40, nI_40, c1, c2, c3]
    refine hq _ ⟨fun a i _ _ e => ?_, rfl⟩ fun t' ht' => ?_
    · funext k; rw [mc_eq, if_neg (fun q => e q.1)]
    · obtain ⟨a1, a2, a3, a4⟩ := h t' ht'
      refine ⟨?_, ?_, a3, fun k hk => ?_⟩
      · rw [mc_eq, if_neg (by simp)]; exact a1
      · rw [mc_eq, if_neg (by simp)]; exact a2
      · unfold r_copy at hk ⊢
        dsimp only at hk ⊢
        rw [mc_eq, if_pos ⟨rfl, rfl⟩]
        unfold va_cpy
        by_cases e1 : t' = o
        · subst e1
          rw [fu_eq]
          by_cases e2 : j ≤ k ∧ k < j + m
          · have e3 : 40 * t + i + (40 * t' + k - (40 * t' + j)) = 40 * t + (i + (k - j)) := by omega
            rw [if_pos (by omega), if_pos e2, ← h4 (i + (k - j)) (by omega), e3]
          · rw [if_neg (by omega), if_neg e2]; exact a4 k hk
        · rw [fu_ne e1, if_neg (by omega)]; exact a4 k hk
end PR
