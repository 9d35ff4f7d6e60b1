/-! the reference: the best of many -/
def BR (μ : si_Mm) (q : Int32 × Int32) : Prop := μ.1 7 0 32 = q.1 ∧ μ.1 7 0 33 = q.2
theorem ms_ms {μ : si_Mm} {a i k : Nat} {v w : Int32} : si_ms (si_ms μ a i k v) a i k w = si_ms μ a i k w := by
  refine Prod.ext ?_ rfl
  funext a' i' k'
  rw [ms_eq, ms_eq, ms_eq]
  split <;> rfl
theorem ft_cell {μ0 μ μ2 : si_Mm} {a k : Nat} {v w : Int32} (ha : a < 35) (h : ft μ0 (si_ms μ a 0 k w)) (hv : μ0.1 a 0 k = w) (g : ft (si_ms μ a 0 k v) μ2) : ft μ0 (si_ms μ2 a 0 k w) := by
  refine ⟨fun a' i j e1 e2 => ?_, fun k' hk => ?_⟩
  · rw [ms_eq]
    by_cases c : a' = a ∧ i = 0 ∧ j = k
    · rw [if_pos c, c.1, c.2.1, c.2.2]; exact hv.symm
    · rw [if_neg c, g.1 a' i j e1 e2, ms_eq, if_neg c]
      have q := h.1 a' i j e1 e2
      rw [ms_eq, if_neg c] at q; exact q
  · rw [ms_eq, if_neg (by omega), g.2 k' hk, ms_eq, if_neg (by omega)]
    have q := h.2 k' hk
    rw [ms_eq, if_neg (by omega)] at q; exact q
theorem ft_back {μ μ1 μm μ2 μ3 μ4 : si_Mm} (g : ft μ μ1) (kp : ∀ k, k < 38 → μ1.1 37 0 k = μ.1 35 0 k) (hm : ∀ a i j, ¬ (a = 35 ∧ i = 0) → μm.1 a i j = μ1.1 a i j) (f2 : fw μm μ2) (g3 : ft μ2 μ3) (e3 : ∀ a i j, a ≠ 7 → μ3.1 a i j = μ2.1 a i j) (e4 : ∀ a i j, ¬ (a = 35 ∧ i = 0) → μ4.1 a i j = μ3.1 a i j) (e5 : ∀ k, k < 38 → μ4.1 35 0 k = μ3.1 37 0 k) : ft μ μ4 ∧ ∀ k, k < 38 → μ4.1 37 0 k = μ.1 35 0 k := by
  have r37 : ∀ k, k < 38 → μ3.1 37 0 k = μ.1 35 0 k := fun k hk => by
    rw [e3 37 0 k (by omega), f2.1 37 0 k (by omega) rfl, hm 37 0 k (by omega)]; exact kp k hk
  refine ⟨⟨fun a i j e1 e2 => ?_, fun k hk => (e5 k hk).trans (r37 k hk)⟩, fun k hk => (e4 37 0 k (by omega)).trans (r37 k hk)⟩
  have ha : ¬ (a = 35 ∧ i = 0) := fun q => by rw [q.1] at e2; exact absurd e2 (by decide)
  rw [e4 a i j ha, g3.1 a i j e1 e2, f2.t.1 a i j e1 e2, hm a i j ha]
  exact g.1 a i j e1 e2
theorem BR.w {μ μ' : si_Mm} {q : Int32 × Int32} (hb : BR μ q) (f : fw μ μ') : BR μ' q := ⟨(f.1 7 0 32 (fun z => by have := Jw_i.mp z.2.2; omega) rfl).trans hb.1, (f.1 7 0 33 (fun z => by have := Jw_i.mp z.2.2; omega) rfl).trans hb.2⟩
theorem BR.of {μ μ' : si_Mm} {q : Int32 × Int32} (hb : BR μ q) (f : ∀ j, μ'.1 7 0 j = μ.1 7 0 j) : BR μ' q := ⟨(f 32).trans hb.1, (f 33).trans hb.2⟩
theorem RG.m {μ : si_Mm} {n a k : Nat} {v : Int32} {V : VT} {S S' : gS} (h : RG μ n V S) (hR : RV (si_ms μ a 0 k v) S') (hw : gw S' n) (hr : gr S') (ha : a ≠ 29 ∧ a ≠ 30) : RG (si_ms μ a 0 k v) n V S' := ⟨hR, hw, hr, h.2.2.2.1, h.2.2.2.2.1.of (by funext j; rw [ms_eq, if_neg (by omega)]) (by funext j; rw [ms_eq, if_neg (by omega)]), h.2.2.2.2.2⟩
theorem RV.r18 {μ : si_Mm} {S : gS} {p : Nat} {v : Int32} (h : RV μ S) (h0 : 0 ≤ S 18 p) : RV (si_ms μ 35 0 (6 + 4 * p) v) (upS S 18 p v) := by
  obtain ⟨a1, a2, a3, a4, a5, a6, a7⟩ := h
  have hP : gP (upS S 18 p v) = gP S := gP_up (by omega)
  rw [RV, hP]
  refine ⟨by rw [upS_ne (by omega), ms_eq, if_neg (by omega)]; exact a1, by rw [upS_ne (by omega), ms_eq, if_neg (by omega)]; exact a2, by rw [upS_ne (by omega), ms_eq, if_neg (by omega)]; exact a3, by rw [upS_ne (by omega), ms_eq, if_neg (by omega)]; exact a4, by rw [upS_ne (by omega), ms_eq, if_neg (by omega)]; exact a5, fun s' hs' => ?_, fun q hq => ?_⟩
  · rw [upS_ne (by omega), upS_ne (by omega), ms_eq, if_neg (by omega), ms_eq, if_neg (by omega)]; exact a6 s' hs'
  · obtain ⟨b1, b2, b3, b4, b5⟩ := a7 q hq
    refine ⟨?_, ?_, ?_, ?_, fun z => ⟨?_, ?_⟩⟩
    · rw [upS_ne (by omega), ms_eq, if_neg (by omega)]; exact b1
    · rw [upS_ne (by omega), ms_eq, if_neg (by omega)]; exact b2
    · unfold upS
      rw [ms_eq]
      by_cases e : q = p
      · subst e; rw [if_pos ⟨rfl, rfl, rfl⟩, if_pos ⟨rfl, rfl⟩]
      · rw [if_neg (by omega), if_neg (by omega)]; exact b3
    · rw [upS_ne (by omega), ms_eq, if_neg (by omega)]; exact b4
    · rw [upS_ne (by omega), ms_eq, if_neg (by omega)]
      refine (b5 ?_).1
      by_cases e : q = p
      · subst e; exact h0
      · unfold upS at z; rw [if_neg (by omega)] at z; exact z
    · rw [upS_ne (by omega), ms_eq, if_neg (by omega)]
      refine (b5 ?_).2
      by_cases e : q = p
      · subst e; exact h0
      · unfold upS at z; rw [if_neg (by omega)] at z; exact z
theorem cnt_n {g : Nat → Int32} {x : Int32} : ∀ (m k a : Nat), a + m ≤ 1000 → ∃ c, g_cnt g x m k (nI a) = nI (a + c) ∧ c ≤ m ∧ (c = 0 ↔ ∀ p, k ≤ p → p < k + m → g p ≠ x)
  | 0, k, a, _ => ⟨0, rfl, Nat.le_refl _, ⟨fun _ p h1 h2 => absurd h2 (by omega), fun _ => rfl⟩⟩
  | m + 1, k, a, h => by
    rw [g_cnt]
    by_cases e : g k = x
    · rw [if_pos e, nI_1]
      obtain ⟨c, h1, h2, h3⟩ := cnt_n (g := g) (x := x) m (k + 1) (a + 1) (by omega)
      refine ⟨c + 1, by rw [h1]; congr 1; omega, by omega, ⟨fun q => absurd q (by omega), fun q => absurd e (q k (by omega) (by omega))⟩⟩
    · rw [if_neg e]
      obtain ⟨c, h1, h2, h3⟩ := cnt_n (g := g) (x := x) m (k + 1) a (by omega)
      refine ⟨c, h1, by omega, h3.trans ⟨fun q p p1 p2 => ?_, fun q p p1 p2 => q p (by omega) (by omega)⟩⟩
      by_cases ep : p = k
      · subst ep; exact e
      · exact q p (by omega) (by omega)
theorem cnt_0 {g : Nat → Int32} {x : Int32} {m : Nat} (hm : m ≤ 1000) : g_cnt g x m 0 0 ≤ 0 ↔ ∀ p, p < m → g p ≠ x := by
  obtain ⟨c, h1, h2, h3⟩ := cnt_n (g := g) (x := x) m 0 0 (by omega)
  have e0 : (0 : Int32) = nI 0 := rfl
  rw [e0, h1, nI_le8 (by omega) (by omega)]
  constructor
  · intro q p hp
    exact h3.mp (by omega) p (by omega) (by omega)
  · intro q
    have := h3.mpr (fun p _ p2 => q p (by omega))
    omega
theorem sum_0 {g : Nat → Int32} (hg : ∀ p, p < 6 → 0 ≤ (g p).toInt ∧ (g p).toInt ≤ 99) : ∀ (m k : Nat) (a : Int32), k + m = 6 → 0 ≤ a.toInt ∧ a.toInt ≤ 99 * k → 0 ≤ (g_sum g m k a).toInt ∧ (g_sum g m k a).toInt ≤ 594
  | 0, k, a, hk, ha => by rw [g_sum]; omega
  | m + 1, k, a, hk, ha => by
    rw [g_sum]
    have := hg k (by omega)
    refine sum_0 hg m (k + 1) _ (by omega) ?_
    rw [i_add (by omega) (by omega)]
    omega
theorem well_0 {S : gS} (h : gr S) : 0 ≤ (y_well S).toInt ∧ (y_well S).toInt ≤ 594 := sum_0 (fun p hp => by
  have := h 14 p
  rw [(hi_14 hp).1, (hi_14 hp).2] at this; exact this) 6 0 0 (by omega) (by rw [i_0]; omega)
theorem well_1 {S : gS} (h : gr S) : ¬ y_well S ≤ -1 := by
  rw [i_le]
  have := well_0 h
  have e : (-1 : Int32).toInt = -1 := by decide
  omega
theorem bf_id {c : Nat → Option Int32} : ∀ (m k : Nat) (q : Int32 × Int32), (∀ p, k ≤ p → p < k + m → c p = none) → bf c m k q = q
  | 0, _, _, _ => rfl
  | m + 1, k, q, h => by
    rw [bf, h k (by omega) (by omega)]
    exact bf_id m (k + 1) q (fun p p1 p2 => h p (by omega) (by omega))
/-- once one was looked at, one is found -/
theorem bf_t {c : Nat → Option Int32} (hc : ∀ p v, c p = some v → ¬ v ≤ -1) : ∀ (m k : Nat) (q : Int32 × Int32), k + m ≤ 1000 → (q.1 ≠ -1 ∨ q = (-1, -1)) → (bf c m k q).1 = -1 → q = (-1, -1) ∧ ∀ p, k ≤ p → p < k + m → c p = none
  | 0, k, q, _, hq, h => ⟨hq.resolve_left (fun z => z h), fun p p1 p2 => absurd p2 (by omega)⟩
  | m + 1, k, q, hk, hq, h => by
    rw [bf] at h
    cases e : c k with
    | none =>
      rw [e] at h
      have := bf_t hc m (k + 1) q (by omega) hq h
      refine ⟨this.1, fun p p1 p2 => ?_⟩
      by_cases ep : p = k
      · subst ep; exact e
      · exact this.2 p (by omega) (by omega)
    | some v =>
      rw [e] at h
      have hv := hc k v e
      have h' : (bf c m (k + 1) (off q (nI k) v)).1 = -1 := h
      have o1 : (off q (nI k) v).1 ≠ -1 := by
        unfold off
        split
        · rename_i c1
          rcases hq with z | z
          · exact z
          · rw [z] at c1; exact absurd c1 hv
        · exact nI_neg1 (by omega)
      have := bf_t hc m (k + 1) _ (by omega) (Or.inl o1) h'
      exact absurd (by rw [this.1]) o1
section RX5
variable {sc : si_Sc} {d : Nat} {μ μ' : si_Mm} {Q : si_Po} {n : Nat} {V : VT} {S S' : gS} {K : Option gS} {R : shT} {zz : Nat} {f : Nat → Int32} {w o v x y : Int32}
theorem r_looks {q : Int32 × Int32} {c : Int32} (hb : BR μ q) (hq : ∀ μ', ft μ μ' → (∀ a i j, a ≠ 7 → μ'.1 a i j = μ.1 a i j) → BR μ' (off q c v) → Q none μ') : si_W sc d 210 0 [some (.inr (.inr (7, 0))), some (.inl c), some (.inl v)] [] μ Q := by
  unfold off at hq
  refine k_X7_looksAt_0 ?_
  rw [hb.2]
  refine ⟨fun h => ?_, fun h => ?_⟩
  · rw [if_pos h] at hq; exact hq μ ft.rf (fun _ _ _ _ => rfl) hb
  · rw [if_neg h] at hq
    refine hq _ ((ft.fm (Or.inl rfl)).tr (ft.fm (Or.inr rfl))) (fun a i j ha => by rw [ms_eq, if_neg (by omega), ms_eq, if_neg (by omega)]) ⟨?_, ?_⟩
    · rw [ms_eq, if_neg (by omega), ms_eq, if_pos ⟨rfl, rfl, rfl⟩]
    · rw [ms_eq, if_pos ⟨rfl, rfl, rfl⟩]
theorem r_keeps (hq : ∀ μ', (∀ a i j, ¬ (a = 37 ∧ i = 0) → μ'.1 a i j = μ.1 a i j) → (∀ k, k < 38 → μ'.1 37 0 k = μ.1 35 0 k) → Q none μ') : si_W sc d 212 0 [some (.inr (.inr (7, 0))), none] [] μ Q := by
  have lp : ∀ (m k : Nat) (μ1 : si_Mm), k + m = 38 → (∀ a i j, ¬ (a = 37 ∧ i = 0) → μ1.1 a i j = μ.1 a i j) → (∀ i, i < k → μ1.1 37 0 i = μ.1 35 0 i) → si_W sc d 212 2 [some (.inr (.inr (7, 0))), some (.inl (nI k))] [] μ1 Q := by
    intro m
    induction m with
    | zero =>
      intro k μ1 hk hs hc
      exact k_X7_keeps_2 ⟨fun _ => hq μ1 hs (fun i hi => hc i (by omega)), fun hn => absurd ((n38 (by omega)).mpr (by omega)) hn⟩
    | succ m ih =>
      intro k μ1 hk hs hc
      have ck : (nI k).toNatClampNeg = k := nI_c (by omega)
      refine k_X7_keeps_2 ⟨fun hn => absurd ((n38 (by omega)).mp hn) (by omega), fun _ => ⟨vp_in_nI (by omega) (by omega), vp_in_nI (by omega) (by omega), ?_⟩⟩
      rw [ck, nI_1]
      refine ih (k + 1) _ (by omega) (fun a i j e => by rw [ms_eq, if_neg (fun q => e ⟨q.1, q.2.1⟩)]; exact hs a i j e) (fun i hi => ?_)
      rw [ms_eq]
      by_cases e : i = k
      · rw [if_pos ⟨rfl, rfl, e⟩, e]; exact hs 35 0 k (by omega)
      · rw [if_neg (by omega)]; exact hc i (by omega)
  exact k_X7_keeps_0 (lp 38 0 μ (by omega) (fun _ _ _ _ => rfl) (fun i hi => absurd hi (Nat.not_lt_zero i)))
theorem r_takesBack (hq : ∀ μ', (∀ a i j, ¬ (a = 35 ∧ i = 0) → μ'.1 a i j = μ.1 a i j) → (∀ k, k < 38 → μ'.1 35 0 k = μ.1 37 0 k) → Q none μ') : si_W sc d 213 0 [some (.inr (.inr (7, 0))), none] [] μ Q := by
  have lp : ∀ (m k : Nat) (μ1 : si_Mm), k + m = 38 → (∀ a i j, ¬ (a = 35 ∧ i = 0) → μ1.1 a i j = μ.1 a i j) → (∀ i, i < k → μ1.1 35 0 i = μ.1 37 0 i) → si_W sc d 213 2 [some (.inr (.inr (7, 0))), some (.inl (nI k))] [] μ1 Q := by
    intro m
    induction m with
    | zero =>
      intro k μ1 hk hs hc
      exact k_X7_takesBack_2 ⟨fun _ => hq μ1 hs (fun i hi => hc i (by omega)), fun hn => absurd ((n38 (by omega)).mpr (by omega)) hn⟩
    | succ m ih =>
      intro k μ1 hk hs hc
      have ck : (nI k).toNatClampNeg = k := nI_c (by omega)
      refine k_X7_takesBack_2 ⟨fun hn => absurd ((n38 (by omega)).mp hn) (by omega), fun _ => ⟨vp_in_nI (by omega) (by omega), vp_in_nI (by omega) (by omega), ?_⟩⟩
      rw [ck, nI_1]
      refine ih (k + 1) _ (by omega) (fun a i j e => by rw [ms_eq, if_neg (fun q => e ⟨q.1, q.2.1⟩)]; exact hs a i j e) (fun i hi => ?_)
      rw [ms_eq]
      by_cases e : i = k
      · rw [if_pos ⟨rfl, rfl, e⟩, e]; exact hs 37 0 k (by omega)
      · rw [if_neg (by omega)]; exact hc i (by omega)
  exact k_X7_takesBack_0 (lp 38 0 μ (by omega) (fun _ _ _ _ => rfl) (fun i hi => absurd hi (Nat.not_lt_zero i)))
theorem RI.b (h : RI μ n V S K R zz f) (hf : ft μ μ') {q : Int32 × Int32} (hb : BR μ' q) (x : Int32) (hq : ∀ μ', rf μ μ' → RI μ' n V S K R zz f → Q (some (.inl (ansB q x))) μ') : (¬ x = 0 → Q (some (.inl (μ'.1 7 0 33))) μ') ∧ (x = 0 → Q (some (.inl (μ'.1 7 0 32))) μ') := by
  have q1 := hq μ' (rf_of hf.o) (h.t hf)
  unfold ansB at q1
  exact ⟨fun c => by rw [if_neg c] at q1; rw [hb.2]; exact q1, fun c => by rw [if_pos c] at q1; rw [hb.1]; exact q1⟩
theorem rc_strict (h : RI μ n V S K R zz f) (hq : ∀ μ', rf μ μ' → RI μ' n V S K R zz f → Q (some (.inl (A_strict V S y x))) μ') : si_W sc (d + 47) 211 0 [some (.inr (.inr (7, 0))), some (.inl y), some (.inl x), none, none] [] μ Q := by
  unfold A_strict at hq
  have hbad : ¬ okB y x → Q (some (.inl (-2))) μ := fun c => by rw [ic_f c] at hq; exact hq μ rf.refl h
  refine k_X7_strict_0 (r_in l0 c30_ (k_X7_strict_9 ⟨fun c => hbad (fun a => bc_0 c a.1), fun c => r_in l0 l1 (k_X7_strict_19 ⟨fun c2 => ?_, fun c2 => hbad (fun a => bc_0 c2 a.2)⟩)⟩))
  have hok : okB y x := ⟨bc_n c, bc_n c2⟩
  rw [ic_t hok] at hq
  obtain ⟨N, hN, rfl⟩ := sp_n (bc_n c)
  rw [tN N hN] at hq
  have v0 : μ.1 7 0 8 = S 2 3 := h.1.1.2.1
  rw [v0]
  have e99 : (99 : Int32) = nI 99 := rfl
  have lp : ∀ (m k : Nat) (q : Int32 × Int32) (μ1 : si_Mm), k + m = 100 → ft μ (si_ms μ1 7 0 8 (S 2 3)) → BR μ1 q → (∀ μ', rf μ μ' → RI μ' n V S K R zz f → Q (some (.inl (ansB (bf (c_strict V N S) m k q) x))) μ') → si_W sc (d + 47) 211 43 [some (.inr (.inr (7, 0))), some (.inl (nI N)), some (.inl x), some (.inl (S 2 3)), some (.inl (nI k))] [] μ1 Q := by
    intro m
    induction m with
    | zero =>
      intro k q μ1 hk hf hb hq
      have hb' : BR (si_ms μ1 7 0 8 (S 2 3)) q := ⟨by rw [ms_eq, if_neg (by omega)]; exact hb.1, by rw [ms_eq, if_neg (by omega)]; exact hb.2⟩
      refine k_X7_strict_43 ⟨fun _ => h.b hf hb' x hq, fun hn => absurd ?_ hn⟩
      rw [e99, nI_lt8 (by omega) (by omega)]; omega
    | succ m ih =>
      intro k q μ1 hk hf hb hq
      rw [bf] at hq
      have h1 := h.1.t hf
      have h2 := h1.m (h1.1.f (j := 8) (k := 3) (v := nI k) (by omega)) (gw_lim h1.2.1) (gr_up h1.2.2.1 (by rw [hi_2.2.2.1, hi_2.2.2.2.1, nI_toInt (by omega)]; omega)) (by omega)
      rw [ms_ms] at h2
      have hb' : BR (si_ms μ1 7 0 8 (nI k)) q := ⟨by rw [ms_eq, if_neg (by omega)]; exact hb.1, by rw [ms_eq, if_neg (by omega)]; exact hb.2⟩
      refine k_X7_strict_43 ⟨fun hn => ?_, fun _ => r_wellBehind (by omega) h2 fun μ2 f2 => k_X7_strict_64 (r_looks (hb'.w f2) fun μ3 g3 _ b3 => k_X7_strict_67 ?_)⟩
      · rw [e99, nI_lt8 (by omega) (by omega)] at hn; omega
      · rw [nI_1]
        exact ih (k + 1) _ μ3 (by omega) (ft_cell (by omega) hf v0 (f2.t.tr g3)) b3 hq
  refine lp 100 0 (-1, -1) _ (by omega) ?_ ⟨?_, ?_⟩ hq
  · have g1 : ft μ (si_ms (si_ms μ 7 0 32 (-1)) 7 0 33 (-1)) := (ft.fm (Or.inl rfl)).tr (ft.fm (Or.inr rfl))
    refine ⟨fun a i j e1 e2 => ?_, fun k hk => by rw [ms_eq, if_neg (by omega)]; exact g1.2 k hk⟩
    rw [ms_eq]
    by_cases e : a = 7 ∧ i = 0 ∧ j = 8
    · rw [if_pos e, e.1, e.2.1, e.2.2]; exact v0.symm
    · rw [if_neg e]; exact g1.1 a i j e1 e2
  · rw [ms_eq, if_neg (by omega), ms_eq, if_pos ⟨rfl, rfl, rfl⟩]
  · rw [ms_eq, if_pos ⟨rfl, rfl, rfl⟩]
theorem rc_drain (h : RI μ n V S K R zz f) (hq : ∀ μ', rf μ μ' → RI μ' n V S K R zz f → Q (some (.inl (A_drain V S y x))) μ') : si_W sc (d + 47) 215 0 [some (.inr (.inr (7, 0))), some (.inl y), some (.inl x), none] [] μ Q := by
  unfold A_drain at hq
  have hbad : ¬ okB y x → Q (some (.inl (-2))) μ := fun c => by rw [ic_f c] at hq; exact hq μ rf.refl h
  refine k_X7_drain_0 (r_in l0 c30_ (k_X7_drain_9 ⟨fun c => hbad (fun a => bc_0 c a.1), fun c => r_in l0 l1 (k_X7_drain_19 ⟨fun c2 => ?_, fun c2 => hbad (fun a => bc_0 c2 a.2)⟩)⟩))
  have hok : okB y x := ⟨bc_n c, bc_n c2⟩
  rw [ic_t hok] at hq
  obtain ⟨N, hN, rfl⟩ := sp_n (bc_n c)
  rw [tN N hN] at hq
  have lp : ∀ (m k : Nat) (q : Int32 × Int32) (μ1 : si_Mm), k + m = 6 → ft μ μ1 → BR μ1 q → (∀ μ', rf μ μ' → RI μ' n V S K R zz f → Q (some (.inl (ansB (bf (c_drain V N S) m k q) x))) μ') → si_W sc (d + 47) 215 41 [some (.inr (.inr (7, 0))), some (.inl (nI N)), some (.inl x), some (.inl (nI k))] [] μ1 Q := by
    intro m
    induction m with
    | zero =>
      intro k q μ1 hk hf hb hq
      exact k_X7_drain_41 ⟨fun _ => h.b hf hb x hq, fun hn => absurd ((n6 (by omega)).mpr (by omega)) hn⟩
    | succ m ih =>
      intro k q μ1 hk hf hb hq
      have ck : (nI k).toNatClampNeg = k := nI_c (by omega)
      have hin : vp_in (nI k) 6 := vp_in_nI (by omega) (by omega)
      have h1 := h.1.t hf
      have r15 : μ1.1 32 0 k = S 15 k := (h1.1.2.2.2.2.2.1 k (by omega)).2
      have g15 := h1.2.2.1 15 k
      rw [(hi_15 (show k < 6 by omega)).1, (hi_15 (show k < 6 by omega)).2] at g15
      rw [bf] at hq
      unfold c_drain at hq
      refine k_X7_drain_41 ⟨fun hn => absurd ((n6 (by omega)).mp hn) (by omega), fun _ => ⟨hin, fun c => ?_, fun c => ⟨hin, ?_⟩⟩⟩
      · rw [ck, r15] at c
        have c' : S 15 k = 0 := by
          rw [i_eq, i_0]
          rw [i_eq, i_1] at c
          omega
        rw [if_pos c'] at hq
        rw [nI_1]
        exact ih (k + 1) _ μ1 (by omega) hf hb hq
      · rw [ck, r15] at c
        have c' : ¬ S 15 k = 0 := fun z => by rw [z] at c; exact absurd c (by decide)
        rw [if_neg c'] at hq
        rw [ck]
        have h2 := h1.m (h1.1.r15 (s := k) (v := 0)) (gw_up h1.2.1 (by decide) (by decide)) (gr_up h1.2.2.1 (by rw [(hi_15 (show k < 6 by omega)).1, (hi_15 (show k < 6 by omega)).2, i_0]; omega)) (by omega)
        have hb' : BR (si_ms μ1 32 0 k 0) q := hb.of (fun j => by rw [ms_eq, if_neg (by omega)])
        refine r_wellBehind (by omega) h2 fun μ2 f2 => k_X7_drain_71 (r_looks (hb'.w f2) fun μ3 g3 _ b3 => k_X7_drain_74 ⟨hin, ?_⟩)
        rw [ck, nI_1]
        have w1 : μ.1 32 0 k = 1 := (h.1.1.2.2.2.2.2.1 k (by omega)).2.trans c
        refine ih (k + 1) _ _ (by omega) (ft_cell (by omega) ?_ w1 (f2.t.tr g3)) (b3.of (fun j => by rw [ms_eq, if_neg (by omega)])) hq
        refine ⟨fun a i j e1 e2 => ?_, fun k' hk' => by rw [ms_eq, if_neg (by omega)]; exact hf.2 k' hk'⟩
        rw [ms_eq]
        by_cases e : a = 32 ∧ i = 0 ∧ j = k
        · rw [if_pos e, e.1, e.2.1, e.2.2]; exact w1.symm
        · rw [if_neg e]; exact hf.1 a i j e1 e2
  have g0 : ft μ (si_ms μ 7 0 32 (-1)) := ft.fm (Or.inl rfl)
  refine r_wellBehind (by omega) (h.1.t g0) fun μ2 f2 => k_X7_drain_36 ?_
  refine lp 6 0 (-1, _) _ (by omega) (g0.tr (f2.t.tr (ft.fm (Or.inr rfl)))) ⟨?_, ?_⟩ hq
  · rw [ms_eq, if_neg (by omega)]
    refine (f2.1 7 0 32 (fun z => by have := Jw_i.mp z.2.2; omega) rfl).trans ?_
    rw [ms_eq, if_pos ⟨rfl, rfl, rfl⟩]
  · rw [ms_eq, if_pos ⟨rfl, rfl, rfl⟩]
theorem RG.p {p : Nat} (h : RG μ n V S) (h18 : S' 18 p = v) (hz : 0 ≤ v → S' 19 p = 0 ∧ S' 20 p = 0) (hs : ∀ a k, ¬ (a = 18 ∧ k = p) → ¬ (a = 19 ∧ k = p) → ¬ (a = 20 ∧ k = p) → S' a k = S a k) (hw' : gw S' n) (hr' : gr S') : RG (pc3 μ p v) n V S' := ⟨h.1.pu h18 hz hs, hw', hr', h.2.2.2.1, h.2.2.2.2.1.g fx.pc, h.2.2.2.2.2⟩
theorem pc3_o {p : Nat} : ∀ a i j, ¬ (a = 35 ∧ i = 0) → (pc3 μ p v).1 a i j = μ.1 a i j := fun a i j e => by
  rw [pc3_at, if_neg (fun q => e ⟨q.1, q.2.1⟩), if_neg (fun q => e ⟨q.1, q.2.1⟩), if_neg (fun q => e ⟨q.1, q.2.1⟩)]
theorem rc_strike (h : RI μ n V S K R zz f) (hq : ∀ μ', rf μ μ' → RI μ' n V S K R zz f → Q (some (.inl (A_strike V S y x))) μ') : si_W sc (d + 47) 216 0 [some (.inr (.inr (7, 0))), some (.inl y), some (.inl x), none] [] μ Q := by
  unfold A_strike at hq
  have h8 := h.1.2.1.1
  have hbad : ¬ okB y x → Q (some (.inl (-2))) μ := fun c => by rw [ic_f c] at hq; exact hq μ rf.refl h
  refine k_X7_strike_0 (r_in l0 c30_ (k_X7_strike_9 ⟨fun c => hbad (fun a => bc_0 c a.1), fun c => r_in l0 l1 (k_X7_strike_19 ⟨fun c2 => ?_, fun c2 => hbad (fun a => bc_0 c2 a.2)⟩)⟩))
  have hok : okB y x := ⟨bc_n c, bc_n c2⟩
  rw [ic_t hok] at hq
  obtain ⟨N, hN, rfl⟩ := sp_n (bc_n c)
  rw [tN N hN] at hq
  have lp : ∀ (m k : Nat) (q : Int32 × Int32) (μ1 : si_Mm), k + m = gP S → ft μ μ1 → (∀ k, k < 38 → μ1.1 37 0 k = μ.1 35 0 k) → BR μ1 q → (∀ μ', rf μ μ' → RI μ' n V S K R zz f → Q (some (.inl (ansB (bf (c_strike V N S) m k q) x))) μ') → si_W sc (d + 47) 216 45 [some (.inr (.inr (7, 0))), some (.inl (nI N)), some (.inl x), some (.inl (nI k))] [] μ1 Q := by
    intro m
    induction m with
    | zero =>
      intro k q μ1 hk hf kp hb hq
      refine k_X7_strike_45 ⟨fun _ => h.b hf hb x hq, fun hn => absurd ?_ hn⟩
      rw [(h.1.t hf).1.P h.1.2.1, nI_le8 (by omega) (by omega)]; omega
    | succ m ih =>
      intro k q μ1 hk hf kp hb hq
      have h1 := h.1.t hf
      have e5 : (-5 : Int32).toInt = -5 := by decide
      rw [bf] at hq
      unfold c_strike at hq
      refine k_X7_strike_45 ⟨fun hn => ?_, fun _ => r_stripOf h1.1 (by omega) h8 (k_X7_strike_58 ⟨fun c => k_X7_strike_84 ?_, fun c => r_puts (by omega) (k_X7_strike_70 ?_)⟩)⟩
      · rw [h1.1.P h1.2.1, nI_le8 (by omega) (by omega)] at hn; omega
      · rw [if_pos c] at hq
        rw [nI_1]
        exact ih (k + 1) _ μ1 (by omega) hf kp hb hq
      · rw [if_neg c] at hq
        have h2 : RG (pc3 μ1 k (-5)) n V (upS S 18 k (-5)) := h1.p upS_eq (fun q => absurd q (by decide)) (fun a k' n1 _ _ => by unfold upS; rw [if_neg n1]) (gw_pl h1.2.1 (Or.inl rfl)) (gr_up h1.2.2.1 (by rw [(hi_18 (show k < 8 by omega)).1, (hi_18 (show k < 8 by omega)).2, e5]; omega))
        have hb' : BR (pc3 μ1 k (-5)) q := hb.of (fun j => pc3_o 7 0 j (by omega))
        refine r_wellBehind (by omega) h2 fun μ2 f2 => k_X7_strike_77 (r_looks (hb'.w f2) fun μ3 g3 e3 b3 => k_X7_strike_80 (r_takesBack fun μ4 e4 e5 => k_X7_strike_84 ?_))
        rw [nI_1]
        have z := ft_back hf kp pc3_o f2 g3 e3 e4 e5
        exact ih (k + 1) _ μ4 (by omega) z.1 z.2 (b3.of (fun j => e4 7 0 j (by omega))) hq
  have g0 : ft μ (si_ms μ 7 0 32 (-1)) := ft.fm (Or.inl rfl)
  refine r_wellBehind (by omega) (h.1.t g0) fun μ2 f2 => k_X7_strike_36 (r_keeps fun μ3 e3 k3 => k_X7_strike_43 ?_)
  have g1 := g0.tr (f2.t.tr (ft.fm (μ := μ2) (v := y_well (y_ys V N S)) (Or.inr rfl)))
  refine lp (gP S) 0 (-1, _) _ (by omega) ⟨fun a i j n1 n2 => ?_, fun k hk => (e3 35 0 k (by omega)).trans (g1.2 k hk)⟩ (fun k hk => (k3 k hk).trans (g1.2 k hk)) ⟨?_, ?_⟩ hq
  · rw [e3 a i j (fun q => by rw [q.1] at n2; exact absurd n2 (by decide))]; exact g1.1 a i j n1 n2
  · rw [e3 7 0 32 (by omega), ms_eq, if_neg (by omega)]
    refine (f2.1 7 0 32 (fun z => by have := Jw_i.mp z.2.2; omega) rfl).trans ?_
    rw [ms_eq, if_pos ⟨rfl, rfl, rfl⟩]
  · rw [e3 7 0 33 (by omega), ms_eq, if_pos ⟨rfl, rfl, rfl⟩]
end RX5
