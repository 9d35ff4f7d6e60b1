/-! the reference thinks: its cells are laid aside, and back -/
def Jw (j : Nat) : Bool := Js j || Nat.beq j 31
def Aw (a : Nat) : Bool := Nat.ble 35 a && Nat.ble a 36
theorem Jw_i {j : Nat} : Jw j = true ↔ (15 ≤ j ∧ j ≤ 29) ∨ j = 31 := by unfold Jw; rw [Bool.or_eq_true, Js_i, Nat.beq_eq]
theorem Aw_i {a : Nat} : Aw a = true ↔ 35 ≤ a ∧ a ≤ 36 := by unfold Aw; rw [Bool.and_eq_true, Nat.ble_eq, Nat.ble_eq]
/-- all is as it was, but for what is only thought -/
def fw (μ μ' : si_Mm) : Prop := fx Jw Aw μ μ' ∧ ∀ k, k < 38 → μ'.1 35 0 k = μ.1 35 0 k
def ft (μ μ' : si_Mm) : Prop := fx Jt Au μ μ' ∧ ∀ k, k < 38 → μ'.1 35 0 k = μ.1 35 0 k
theorem ft.rf {μ : si_Mm} : ft μ μ := ⟨fx.rf, fun _ _ => rfl⟩
theorem ft.tr {μ1 μ2 μ3 : si_Mm} (h : ft μ1 μ2) (g : ft μ2 μ3) : ft μ1 μ3 := ⟨h.1.tr g.1, fun k hk => (g.2 k hk).trans (h.2 k hk)⟩
theorem fw.tr {μ1 μ2 μ3 : si_Mm} (h : fw μ1 μ2) (g : fw μ2 μ3) : fw μ1 μ3 := ⟨h.1.tr g.1, fun k hk => (g.2 k hk).trans (h.2 k hk)⟩
theorem fw.t {μ1 μ2 : si_Mm} (h : fw μ1 μ2) : ft μ1 μ2 := ⟨h.1.mo (fun j q => Jt_i.mpr (by have := Jw_i.mp q; omega)) (fun a q => Au_i.mpr (by have := Aw_i.mp q; omega)), h.2⟩
theorem ft.fm {μ : si_Mm} {j : Nat} {v : Int32} (hj : j = 32 ∨ j = 33) : ft μ (si_ms μ 7 0 j v) := ⟨fun a i j' e1 _ => by rw [ms_eq, if_neg (fun q => e1 ⟨q.1, q.2.1, Jt_i.mpr (by omega)⟩)], fun k _ => by rw [ms_eq, if_neg (by omega)]⟩
theorem RG.t {μ μ' : si_Mm} {n : Nat} {V : VT} {S : gS} (h : RG μ n V S) (hf : ft μ μ') : RG μ' n V S := by
  have hA : ∀ a, a < 35 → Au a = false := fun a ha => by
    cases hc : Au a with
    | false => rfl
    | true => have := Au_i.mp hc; omega
  refine ⟨h.1.of (fun j hj => hf.1 7 0 j (fun q => by have := Jt_i.mp q.2.2; omega) (hA 7 (by omega))) (by funext k; exact hf.1 32 0 k (by omega) (hA _ (by omega))) (by funext k; exact hf.1 33 0 k (by omega) (hA _ (by omega))) (by funext k; exact hf.1 34 0 k (by omega) (hA _ (by omega))) hf.2 h.2.1.1, h.2.1, h.2.2.1, h.2.2.2.1, h.2.2.2.2.1.of (by funext k; exact hf.1 30 0 k (by omega) (hA _ (by omega))) (by funext k; exact hf.1 29 0 k (by omega) (hA _ (by omega))), h.2.2.2.2.2⟩
/-- the state of a thought that began at μ -/
def Jx (j : Nat) : Bool := Jg j || Nat.beq j 31
theorem Jx_i {j : Nat} : Jx j = true ↔ ((15 ≤ j ∧ j ≤ 29) ∨ j = 7) ∨ j = 31 := by unfold Jx; rw [Bool.or_eq_true, Jg_i, Nat.beq_eq]
def TH (μ μ1 : si_Mm) : Prop := fx Jx Aw μ μ1 ∧ (∀ k, k < 38 → μ1.1 36 0 k = μ.1 35 0 k) ∧ μ1.1 7 0 31 = μ.1 7 0 7
theorem TH.g {μ μ1 μ2 : si_Mm} (h : TH μ μ1) (hf : fx Jg Ag μ1 μ2) : TH μ μ2 := ⟨h.1.tr (hf.mo (fun j q => Jx_i.mpr (Or.inl (Jg_i.mp q))) (fun a q => Aw_i.mpr (by have := Ag_i.mp q; omega))), fun k hk => (hf 36 0 k (by omega) rfl).trans (h.2.1 k hk), (hf 7 0 31 (fun q => by have := Jg_i.mp q.2.2; omega) rfl).trans h.2.2⟩
theorem n38 {i : Nat} (hi : i ≤ 38) : (38 : Int32) ≤ nI i ↔ 38 ≤ i := by
  have e : (38 : Int32) = nI 38 := rfl
  rw [e, nI_le8 (by omega) (by omega)]
section RQ
variable {sc : si_Sc} {d : Nat} {μ : si_Mm} {Q : si_Po} {n : Nat} {V : VT} {S : gS}
theorem r_aside (h : RG μ n V S) (hq : ∀ μ1, TH μ μ1 → RG μ1 n V S → Q none μ1) : si_W sc d 203 0 [some (.inr (.inr (7, 0))), none] [] μ Q := by
  have lp : ∀ (m k : Nat) (μ1 : si_Mm), k + m = 38 → (∀ a i j, ¬ (a = 36 ∧ i = 0) → μ1.1 a i j = μ.1 a i j) → (∀ i, i < k → μ1.1 36 0 i = μ.1 35 0 i) → si_W sc d 203 2 [some (.inr (.inr (7, 0))), some (.inl (nI k))] [] μ1 Q := by
    intro m
    induction m with
    | zero =>
      intro k μ1 hk hs hc
      have ek : k = 38 := by omega
      refine k_X7_laysAside_2 ⟨fun _ => ?_, fun hn => absurd ((n38 (by omega)).mpr (by omega)) hn⟩
      have ht : TH μ (si_ms μ1 7 0 31 (μ1.1 7 0 7)) := by
        refine ⟨fun a i j e1 e2 => ?_, fun i hi => ?_, ?_⟩
        · rw [ms_eq, if_neg (fun q => e1 ⟨q.1, q.2.1, Jx_i.mpr (by omega)⟩)]
          refine hs a i j fun q => ?_
          rw [q.1] at e2; exact absurd e2 (by decide)
        · rw [ms_eq, if_neg (by omega)]; exact hc i (by omega)
        · rw [ms_eq, if_pos ⟨rfl, rfl, rfl⟩]; exact hs 7 0 7 (by omega)
      refine hq _ ht ⟨h.1.of (fun j hj => ?_) ?_ ?_ ?_ (fun i hi => ?_) h.2.1.1, h.2.1, h.2.2.1, h.2.2.2.1, h.2.2.2.2.1.of ?_ ?_, h.2.2.2.2.2⟩
      · rw [ms_eq, if_neg (by omega)]; exact hs 7 0 j (by omega)
      · funext i; rw [ms_eq, if_neg (by omega)]; exact hs 32 0 i (by omega)
      · funext i; rw [ms_eq, if_neg (by omega)]; exact hs 33 0 i (by omega)
      · funext i; rw [ms_eq, if_neg (by omega)]; exact hs 34 0 i (by omega)
      · rw [ms_eq, if_neg (by omega)]; exact hs 35 0 i (by omega)
      · funext i; rw [ms_eq, if_neg (by omega)]; exact hs 30 0 i (by omega)
      · funext i; rw [ms_eq, if_neg (by omega)]; exact hs 29 0 i (by omega)
    | succ m ih =>
      intro k μ1 hk hs hc
      have ck : (nI k).toNatClampNeg = k := nI_c (by omega)
      refine k_X7_laysAside_2 ⟨fun hn => absurd ((n38 (by omega)).mp hn) (by omega), fun _ => ⟨vp_in_nI (by omega) (by omega), vp_in_nI (by omega) (by omega), ?_⟩⟩
      rw [ck, nI_1]
      refine ih (k + 1) _ (by omega) (fun a i j e => by rw [ms_eq, if_neg (fun q => e ⟨q.1, q.2.1⟩)]; exact hs a i j e) (fun i hi => ?_)
      rw [ms_eq]
      by_cases e : i = k
      · rw [if_pos ⟨rfl, rfl, e⟩, e]; exact hs 35 0 k (by omega)
      · rw [if_neg (by omega)]; exact hc i (by omega)
  exact k_X7_laysAside_0 (lp 38 0 μ (by omega) (fun _ _ _ _ => rfl) (fun i hi => absurd hi (Nat.not_lt_zero i)))
theorem r_back1 {μ1 : si_Mm} (h : TH μ μ1) (hq : ∀ μ', fw μ μ' → (∀ a i j, ¬ (a = 7 ∧ i = 0 ∧ j = 7) → ¬ (a = 35 ∧ i = 0) → μ'.1 a i j = μ1.1 a i j) → Q none μ') : si_W sc d 204 0 [some (.inr (.inr (7, 0))), none] [] μ1 Q := by
  have lp : ∀ (m k : Nat) (μ2 : si_Mm), k + m = 38 → (∀ a i j, ¬ (a = 35 ∧ i = 0) → μ2.1 a i j = μ1.1 a i j) → (∀ i, i < k → μ2.1 35 0 i = μ.1 35 0 i) → si_W sc d 204 2 [some (.inr (.inr (7, 0))), some (.inl (nI k))] [] μ2 Q := by
    intro m
    induction m with
    | zero =>
      intro k μ2 hk hs hc
      have ek : k = 38 := by omega
      refine k_X7_laysBack_2 ⟨fun _ => hq _ ⟨fun a i j e1 e2 => ?_, fun i hi => ?_⟩ (fun a i j e1 e2 => ?_), fun hn => absurd ((n38 (by omega)).mpr (by omega)) hn⟩
      · have n35 : ¬ (a = 35 ∧ i = 0) := fun q => by rw [q.1] at e2; exact absurd e2 (by decide)
        rw [ms_eq]
        by_cases e : a = 7 ∧ i = 0 ∧ j = 7
        · obtain ⟨rfl, rfl, rfl⟩ := e
          rw [if_pos ⟨rfl, rfl, rfl⟩, hs 7 0 31 (by omega)]; exact h.2.2
        · rw [if_neg e, hs a i j n35]
          refine h.1 a i j (fun q => ?_) e2
          have := Jx_i.mp q.2.2
          exact e1 ⟨q.1, q.2.1, Jw_i.mpr (by omega)⟩
      · rw [ms_eq, if_neg (by omega)]; exact hc i (by omega)
      · rw [ms_eq, if_neg e1]; exact hs a i j e2
    | succ m ih =>
      intro k μ2 hk hs hc
      have ck : (nI k).toNatClampNeg = k := nI_c (by omega)
      refine k_X7_laysBack_2 ⟨fun hn => absurd ((n38 (by omega)).mp hn) (by omega), fun _ => ⟨vp_in_nI (by omega) (by omega), vp_in_nI (by omega) (by omega), ?_⟩⟩
      rw [ck, nI_1]
      refine ih (k + 1) _ (by omega) (fun a i j e => by rw [ms_eq, if_neg (fun q => e ⟨q.1, q.2.1⟩)]; exact hs a i j e) (fun i hi => ?_)
      rw [ms_eq]
      by_cases e : i = k
      · rw [if_pos ⟨rfl, rfl, e⟩, e, hs 36 0 k (by omega)]; exact h.2.1 k (by omega)
      · rw [if_neg (by omega)]; exact hc i (by omega)
  exact k_X7_laysBack_0 (lp 38 0 μ1 (by omega) (fun _ _ _ _ => rfl) (fun i hi => absurd hi (Nat.not_lt_zero i)))
theorem r_well (h : RG μ n V S) (hq : Q (some (.inl (y_well S))) μ) : si_W sc d 205 0 [some (.inr (.inr (7, 0))), none, none] [] μ Q := by
  have lp : ∀ (m k : Nat) (a : Int32), k + m = 6 → Q (some (.inl (g_sum (S 14) m k a))) μ → si_W sc d 205 4 [some (.inr (.inr (7, 0))), some (.inl a), some (.inl (nI k))] [] μ Q := by
    intro m
    induction m with
    | zero => exact fun k a hk hq => k_X7_well_4 ⟨fun _ => hq, fun hn => absurd ((n6 (by omega)).mpr (by omega)) hn⟩
    | succ m ih =>
      intro k a hk hq
      have ck : (nI k).toNatClampNeg = k := nI_c (by omega)
      refine k_X7_well_4 ⟨fun hn => absurd ((n6 (by omega)).mp hn) (by omega), fun _ => ⟨vp_in_nI (by omega) (by omega), ?_⟩⟩
      rw [ck, nI_1, (h.1.2.2.2.2.2.1 k (by omega)).1]
      exact ih (k + 1) _ (by omega) hq
  exact k_X7_well_0 (lp 6 0 0 (by omega) hq)
theorem r_wellBehind {N : Nat} (hN : N ≤ 1000) (h : RG μ n V S) (hq : ∀ μ', fw μ μ' → Q (some (.inl (y_well (y_ys V N S)))) μ') : si_W sc (d + 46) 209 0 [some (.inr (.inr (7, 0))), some (.inl (nI N)), none] [] μ Q := by
  refine k_X7_wellBehind_0 (r_aside h fun μ1 t1 h1 => k_X7_wellBehind_4 ?_)
  have lp : ∀ (m k : Nat) (S1 : gS) (μ1 : si_Mm), k + m = N → TH μ μ1 → RG μ1 n V S1 → (∀ μ', fw μ μ' → Q (some (.inl (y_well (y_ys V m S1)))) μ') → si_W sc (d + 46) 209 6 [some (.inr (.inr (7, 0))), some (.inl (nI N)), some (.inl (nI k))] [] μ1 Q := by
    intro m
    induction m with
    | zero =>
      intro k S1 μ1 hk t1 h1 hq
      refine k_X7_wellBehind_6 ⟨fun _ => r_well h1 (k_X7_wellBehind_25 (r_back1 t1 fun μ' f' _ => k_X7_wellBehind_30 (hq μ' f'))), fun hn => absurd ?_ hn⟩
      rw [nI_le8 (by omega) (by omega)]; omega
    | succ m ih =>
      intro k S1 μ1 hk t1 h1 hq
      refine k_X7_wellBehind_6 ⟨fun hn => ?_, fun _ => r_lives h1 fun μ2 f2 h2 => k_X7_wellBehind_15 ?_⟩
      · rw [nI_le8 (by omega) (by omega)] at hn; omega
      · rw [nI_1]
        exact ih (k + 1) _ μ2 (by omega) (t1.g f2) h2 hq
  exact lp N 0 S μ1 (by omega) t1 h1 hq
theorem r_howMany {x : Int32} (h : RV μ S) (hw : gw S n) (hq : Q (some (.inl (g_cnt (S 18) x (gP S) 0 0))) μ) : si_W sc (d + 2) 201 0 [some (.inr (.inr (7, 0))), some (.inl x), none, none] [] μ Q := by
  have h8 := hw.1
  have lp : ∀ (m k : Nat) (a : Int32), k + m = gP S → Q (some (.inl (g_cnt (S 18) x m k a))) μ → si_W sc (d + 2) 201 4 [some (.inr (.inr (7, 0))), some (.inl x), some (.inl a), some (.inl (nI k))] [] μ Q := by
    intro m
    induction m with
    | zero =>
      intro k a hk hq
      refine k_X7_howMany_4 ⟨fun _ => hq, fun hn => absurd ?_ hn⟩
      rw [h.P hw, nI_le8 (by omega) (by omega)]; omega
    | succ m ih =>
      intro k a hk hq
      rw [g_cnt] at hq
      refine k_X7_howMany_4 ⟨fun hn => ?_, fun _ => r_stripOf h (by omega) h8 (k_X7_howMany_18 ⟨fun c => ?_, fun c => ?_⟩)⟩
      · rw [h.P hw, nI_le8 (by omega) (by omega)] at hn; omega
      · rw [if_neg c] at hq
        rw [nI_1, Int32.add_zero]; exact ih (k + 1) _ (by omega) hq
      · rw [if_pos c] at hq
        rw [nI_1]; exact ih (k + 1) _ (by omega) hq
  exact k_X7_howMany_0 (lp (gP S) 0 0 (by omega) hq)
end RQ
