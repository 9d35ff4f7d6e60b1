/-! takes, strict, outOfTurn, drain, strike, change -/
noncomputable def y_tk (V : Nat → Nat → (Nat → Int32) → Int32) (p : Nat) : Nat → Nat → gS → Int32
  | 0, _, S => if S 18 p = -1 then -1 else 30
  | n + 1, k, S => if S 18 p = -1 then y_tk V p n (k + 1) (y_year V S) else nI k
def bf (c : Nat → Option Int32) : Nat → Nat → Int32 × Int32 → Int32 × Int32
  | 0, _, q => q
  | n + 1, k, q => bf c n (k + 1) (match c k with
    | none => q
    | some v => off q (nI k) v)
noncomputable def c_strict (V : Nat → Nat → (Nat → Int32) → Int32) (N : Nat) (S : gS) (k : Nat) : Option Int32 := some (y_well (y_ys V N (upS S 2 3 (nI k))))
noncomputable def c_turn (V : Nat → Nat → (Nat → Int32) → Int32) (N s : Nat) (S : gS) (p : Nat) : Option Int32 := if S 18 p = -1 then some (y_well (y_ys V N (y_in S p s))) else none
noncomputable def c_drain (V : Nat → Nat → (Nat → Int32) → Int32) (N : Nat) (S : gS) (s : Nat) : Option Int32 := if S 15 s = 0 then none else some (y_well (y_ys V N (upS S 15 s 0)))
noncomputable def c_strike (V : Nat → Nat → (Nat → Int32) → Int32) (N : Nat) (S : gS) (p : Nat) : Option Int32 := if S 18 p = -5 then none else some (y_well (y_ys V N (upS S 18 p (-5))))
def y_swap (S : gS) (a b : Nat) : gS := upS (upS S 18 a (S 18 b)) 18 b (S 18 a)
noncomputable def c_chg (V : Nat → Nat → (Nat → Int32) → Int32) (N : Nat) (S : gS) (a : Nat) : Nat → Nat → Int32 × Int32 → Int32 × Int32
  | 0, _, q => q
  | n + 1, b, q => c_chg V N S a n (b + 1) (if 0 ≤ S 18 a ∧ 0 ≤ S 18 b then off q (10 * nI a + nI b) (y_well (y_ys V N (y_swap S a b))) else q)
noncomputable def c_chg2 (V : Nat → Nat → (Nat → Int32) → Int32) (N : Nat) (S : gS) : Nat → Nat → Int32 × Int32 → Int32 × Int32
  | 0, _, q => q
  | n + 1, a, q => c_chg2 V N S n (a + 1) (c_chg V N S a (gP S - (a + 1)) (a + 1) q)
theorem gw_lim {S : gS} {n : Nat} {v : Int32} (h : gw S n) : gw (upS S 2 3 v) n := gw_of (by unfold upS; rw [if_neg (by decide)]) (by unfold upS; rw [if_neg (by decide)]) (fun p _ => Or.inl (by rw [upS_ne (by decide)])) h
theorem gw_in {S : gS} {n p s : Nat} (hs : s < 6) (h : gw S n) : gw (y_in S p s) n := gw_up (gw_up (gw_pl h (Or.inr ⟨s, hs, rfl⟩)) (by decide) (by decide)) (by decide) (by decide)
theorem fw_n {x : Int32} (h : 0 ≤ x ∧ x ≤ 1) : x = 0 ∨ x = 1 := by
  obtain ⟨h1, h2⟩ := h
  rw [i_le, i_0] at h1
  rw [i_le, i_1] at h2
  rw [i_eq, i_eq (x := x) (y := 1), i_0, i_1]
  omega
section PX
variable {sc : si_Sc} {d : Nat} {μ : si_Mm} {Q : si_Po} {n : Nat} {e : Nat → Nat} {S : gS}
theorem p_takes {o : Int32} (h : cg μ n e S) (hbad : ¬ isP S o → Q (some (.inl (-2))) μ) (hq : ∀ p, p < gP S → o = nI p → ∀ μ', sx μ μ' → Q (some (.inl (y_tk (y_V (μ.1 10 0) e) p 30 0 S))) μ') : si_W sc (d + 5) 95 0 [some (.inr (.inr (6, 0))), some (.inl o), none] [] μ Q := by
  refine k_X6_takes_0 (p_isP h (k_X6_takes_8 ⟨fun hz => ?_, fun hz => hbad (bc_0 hz)⟩))
  obtain ⟨p, hp, rfl⟩ := isP_n h.2.2.1 (bc_n hz)
  have h8 := h.2.2.1.1
  have cp : (nI p).toNatClampNeg = p := nI_c (by omega)
  have hin : vp_in (nI p) 8 := vp_in_nI (by omega) (by omega)
  refine p_bec h fun μ1 m1 => k_X6_takes_25 ?_
  have lp : ∀ (m k : Nat) (S1 : gS) (μ1 : si_Mm), k + m = 30 → mr 1 μ μ1 S1 → gw S1 n → gr S1 → (∀ μ', sx μ μ' → Q (some (.inl (y_tk (y_V (μ.1 10 0) e) p m k S1))) μ') → si_W sc (d + 5) 95 27 [some (.inr (.inr (6, 0))), some (.inl (nI p)), some (.inl (nI k))] [] μ1 Q := by
    intro m
    induction m with
    | zero =>
      intro k S1 μ1 hk m1 hw hr hq
      have q1 := hq μ1 (sx.m1 m1 hr)
      have r18 : μ1.1 18 1 = S1 18 := by rw [← m1.1, vw_at (by decide)]
      rw [y_tk] at q1
      refine k_X6_takes_27 ⟨fun _ => ⟨hin, fun hv => ?_, fun hv => ?_⟩, fun hn => absurd ?_ hn⟩
      · rw [cp, r18] at hv; rw [if_pos hv] at q1; exact q1
      · rw [cp, r18] at hv; rw [if_neg hv] at q1; exact q1
      · have e30 : (30 : Int32) = nI 30 := rfl
        rw [e30, nI_le8 (by omega) (by omega)]; omega
    | succ m ih =>
      intro k S1 μ1 hk m1 hw hr hq
      have r18 : μ1.1 18 1 = S1 18 := by rw [← m1.1, vw_at (by decide)]
      rw [y_tk] at hq
      refine k_X6_takes_27 ⟨fun hn => ?_, fun _ => ⟨hin, fun hv => ?_, fun hv => ?_⟩⟩
      · have e30 : (30 : Int32) = nI 30 := rfl
        rw [e30, nI_le8 (by omega) (by omega)] at hn; omega
      · rw [cp, r18] at hv
        rw [if_pos hv] at hq
        refine p_passYear (m1.bk h.1) (by rw [m1.1]; exact hw) fun μ2 m2 => k_X6_takes_55 ?_
        rw [m1.cd, m1.1] at m2
        rw [nI_1]
        exact ih (k + 1) _ μ2 (by omega) (m1.tr m2) (gw_year hw) (gr_year vr_V hw hr) hq
      · rw [cp, r18] at hv
        rw [if_neg hv] at hq
        exact hq μ1 (sx.m1 m1 hr)
  exact lp 30 0 S μ1 (by omega) m1 h.2.2.1 h.2.2.2.1 (hq p hp rfl)
theorem p_strict {y x : Int32} (h : cg μ n e S) (hbad : ¬ ((0 ≤ y ∧ y ≤ 30) ∧ (0 ≤ x ∧ x ≤ 1)) → Q (some (.inl (-2))) μ) (hq : ∀ N, N ≤ 30 → y = nI N → (0 ≤ x ∧ x ≤ 1) → ∀ μ', sx μ μ' → Q (some (.inl (ansB (bf (c_strict (y_V (μ.1 10 0) e) N S) 100 0 (-1, -1)) x))) μ') : si_W sc (d + 6) 97 0 [some (.inr (.inr (6, 0))), some (.inl y), some (.inl x), none] [] μ Q := by
  refine k_X6_strict_0 (p_isSpan (k_X6_strict_4 ⟨fun hz => hbad (fun a => bi_0.mp hz a.1), fun hz => p_isFoundOrWell (k_X6_strict_11 ⟨fun hy => ?_, fun hy => hbad (fun a => bi_0.mp hy a.2)⟩)⟩))
  obtain ⟨N, hN, rfl⟩ := sp_n (bi_n hz)
  refine p_start (sx.rf h.2.2.2.2.1) fun μ1 B1 => k_X6_strict_25 ?_
  have lp : ∀ (m k : Nat) (q : Int32 × Int32) (μ1 : si_Mm), k + m = 100 → BI μ μ1 q → (∀ μ', sx μ μ' → Q (some (.inl (ansB (bf (c_strict (y_V (μ.1 10 0) e) N S) m k q) x))) μ') → si_W sc (d + 6) 97 27 [some (.inr (.inr (6, 0))), some (.inl (nI N)), some (.inl x), some (.inl (nI k))] [] μ1 Q := by
    have e99 : (99 : Int32) = nI 99 := rfl
    intro m
    induction m with
    | zero =>
      intro k q μ1 hk B1 hq
      refine k_X6_strict_27 ⟨fun _ => p_answer B1.2 (k_X6_strict_82 (hq μ1 B1.1)), fun hn => absurd ?_ hn⟩
      rw [e99, nI_lt8 (by omega) (by omega)]; omega
    | succ m ih =>
      intro k q μ1 hk B1 hq
      refine k_X6_strict_27 ⟨fun hn => ?_, fun _ => p_bec (B1.1.cg h) fun μ2 m2 => k_X6_strict_44 ?_⟩
      · rw [e99, nI_lt8 (by omega) (by omega)] at hn; omega
      have m3 := m2.tr (mr.ms (g := 1) (a := 2) (k := 3) (μ := μ2) (v := nI k) (by decide))
      rw [m2.1] at m3
      have g3 : gw (upS S 2 3 (nI k)) n := gw_lim h.2.2.1
      have r3 : gr (upS S 2 3 (nI k)) := gr_up h.2.2.2.1 (by rw [hi_2.2.2.1, hi_2.2.2.2.1, nI_toInt (by omega)]; omega)
      refine p_wellT (by omega) (m3.bk (B1.1.bk h.1)) m3.1 g3 r3 fun μ4 m4 g4 => k_X6_strict_65 ?_
      have m5 := m3.tr m4
      rw [m3.cd, B1.1.cd] at m5 g4 ⊢
      refine p_offer (B1.m1 m5 g4) fun μ6 B6 => k_X6_strict_68 ?_
      rw [nI_1]
      exact ih (k + 1) _ μ6 (by omega) B6 hq
  exact lp 100 0 _ μ1 (by omega) B1 (hq N hN rfl (bi_n hy))
theorem p_outOfTurn {z y x : Int32} (h : cg μ n e S) (hbad : ¬ ((0 ≤ z ∧ z ≤ 5) ∧ (0 ≤ y ∧ y ≤ 30) ∧ (0 ≤ x ∧ x ≤ 1)) → Q (some (.inl (-2))) μ) (hst : ∀ s, s < 6 → z = nI s → (0 ≤ y ∧ y ≤ 30) → (0 ≤ x ∧ x ≤ 1) → wI S s ≠ -1 → Q (some (.inl (-3))) μ) (hq : ∀ s N, s < 6 → z = nI s → N ≤ 30 → y = nI N → (0 ≤ x ∧ x ≤ 1) → wI S s = -1 → ∀ μ', sx μ μ' → Q (some (.inl (ansB (bf (c_turn (y_V (μ.1 10 0) e) N s S) (gP S) 0 (-1, if g_cnt (S 18) (-1) (gP S) 0 0 ≤ 0 then y_well (y_ys (y_V (μ.1 10 0) e) N S) else -1)) x))) μ') : si_W sc (d + 7) 98 0 [some (.inr (.inr (6, 0))), some (.inl z), some (.inl y), some (.inl x), none] [] μ Q := by
  refine k_X6_outOfTurn_0 (p_isStrip (k_X6_outOfTurn_4 ⟨fun hz => hbad (fun a => bi_0.mp hz a.1), fun hz => p_isSpan (k_X6_outOfTurn_11 ⟨fun hy => hbad (fun a => bi_0.mp hy a.2.1), fun hy => p_isFoundOrWell (k_X6_outOfTurn_18 ⟨fun hx => ?_, fun hx => hbad (fun a => bi_0.mp hx a.2.2)⟩)⟩)⟩))
  have hyy := bi_n hy
  have hxx := bi_n hx
  obtain ⟨s, hs, rfl⟩ := st_n (bi_n hz)
  obtain ⟨N, hN, rfl⟩ := sp_n (bi_n hy)
  have h8 := h.2.2.1.1
  refine p_holder h.P h8 ?_
  rw [h.r (by decide)]
  refine k_X6_outOfTurn_32 ⟨fun hw => p_peopleAt h.P h8 ?_, fun hw => hst s hs rfl hyy hxx hw⟩
  rw [h.r (by decide)]
  have hq1 := hq s N hs rfl hN rfl hxx hw
  have lp : ∀ (m k : Nat) (q : Int32 × Int32) (μ1 : si_Mm), k + m = gP S → BI μ μ1 q → (∀ μ', sx μ μ' → Q (some (.inl (ansB (bf (c_turn (y_V (μ.1 10 0) e) N s S) m k q) x))) μ') → si_W sc (d + 7) 98 69 [some (.inr (.inr (6, 0))), some (.inl (nI s)), some (.inl (nI N)), some (.inl x), some (.inl (nI k))] [] μ1 Q := by
    intro m
    induction m with
    | zero =>
      intro k q μ1 hk B1 hq
      refine k_X6_outOfTurn_69 ⟨fun _ => p_answer B1.2 (k_X6_outOfTurn_147 (hq μ1 B1.1)), fun hn => absurd ?_ hn⟩
      rw [(B1.1.cg h).P, nI_le8 (by omega) (by omega)]; omega
    | succ m ih =>
      intro k q μ1 hk B1 hq
      have h1 := B1.1.cg h
      have ck : (nI k).toNatClampNeg = k := nI_c (by omega)
      rw [bf] at hq
      unfold c_turn at hq
      refine k_X6_outOfTurn_69 ⟨fun hn => ?_, fun _ => ⟨vp_in_nI (by omega) (by omega), fun hp => k_X6_outOfTurn_133 ?_, fun hp => p_bec h1 fun μ2 m2 => k_X6_outOfTurn_106 ?_⟩⟩
      · rw [h1.P, nI_le8 (by omega) (by omega)] at hn; omega
      · rw [ck, h1.r (by decide)] at hp
        rw [if_neg hp] at hq
        rw [nI_1]
        exact ih (k + 1) _ μ1 (by omega) B1 hq
      · rw [ck, h1.r (by decide)] at hp
        rw [if_pos hp] at hq
        refine p_moveIn (by omega) fun μ3 m3 => k_X6_outOfTurn_116 ?_
        rw [m2.1] at m3
        have m23 := m2.tr m3
        refine p_wellT (S1 := y_in S k s) (by omega) (m23.bk h1.1) m23.1 (gw_in hs h.2.2.1) (gr_in (by omega) hs h.2.2.2.1) fun μ4 m4 g4 => k_X6_outOfTurn_130 ?_
        have m5 := m23.tr m4
        rw [m23.cd, B1.1.cd] at m5 g4 ⊢
        refine p_offer (B1.m1 m5 g4) fun μ6 B6 => k_X6_outOfTurn_133 ?_
        rw [nI_1]
        exact ih (k + 1) _ μ6 (by omega) B6 hq
  refine k_X6_outOfTurn_51 ⟨fun hc => p_wellAsNow (by omega) h fun μ1 m1 s1 => k_X6_outOfTurn_63 (p_start s1 fun μ2 B2 => k_X6_outOfTurn_66 ?_), fun hc => k_X6_outOfTurn_63 (p_start (sx.rf h.2.2.2.2.1) fun μ2 B2 => k_X6_outOfTurn_66 ?_)⟩
  · rw [if_pos hc] at hq1
    exact lp (gP S) 0 _ μ2 (by omega) B2 hq1
  · rw [if_neg hc] at hq1
    exact lp (gP S) 0 _ μ2 (by omega) B2 hq1
theorem p_drain {y x : Int32} (h : cg μ n e S) (hbad : ¬ ((0 ≤ y ∧ y ≤ 30) ∧ (0 ≤ x ∧ x ≤ 1)) → Q (some (.inl (-2))) μ) (hq : ∀ N, N ≤ 30 → y = nI N → (0 ≤ x ∧ x ≤ 1) → ∀ μ', sx μ μ' → Q (some (.inl (ansB (bf (c_drain (y_V (μ.1 10 0) e) N S) 6 0 (-1, y_well (y_ys (y_V (μ.1 10 0) e) N S))) x))) μ') : si_W sc (d + 7) 99 0 [some (.inr (.inr (6, 0))), some (.inl y), some (.inl x), none] [] μ Q := by
  refine k_X6_drain_0 (p_isSpan (k_X6_drain_4 ⟨fun hz => hbad (fun a => bi_0.mp hz a.1), fun hz => p_isFoundOrWell (k_X6_drain_11 ⟨fun hy => ?_, fun hy => hbad (fun a => bi_0.mp hy a.2)⟩)⟩))
  obtain ⟨N, hN, rfl⟩ := sp_n (bi_n hz)
  refine p_wellAsNow (by omega) h fun μ1 m1 s1 => k_X6_drain_26 (p_start s1 fun μ2 B2 => k_X6_drain_29 ?_)
  have lp : ∀ (m k : Nat) (q : Int32 × Int32) (μ1 : si_Mm), k + m = 6 → BI μ μ1 q → (∀ μ', sx μ μ' → Q (some (.inl (ansB (bf (c_drain (y_V (μ.1 10 0) e) N S) m k q) x))) μ') → si_W sc (d + 7) 99 31 [some (.inr (.inr (6, 0))), some (.inl (nI N)), some (.inl x), some (.inl (nI k))] [] μ1 Q := by
    intro m
    induction m with
    | zero =>
      intro k q μ1 hk B1 hq
      exact k_X6_drain_31 ⟨fun _ => p_answer B1.2 (k_X6_drain_100 (hq μ1 B1.1)), fun hn => absurd ((n6 (by omega)).mpr (by omega)) hn⟩
    | succ m ih =>
      intro k q μ1 hk B1 hq
      have h1 := B1.1.cg h
      have ck : (nI k).toNatClampNeg = k := nI_c (by omega)
      have hin : vp_in (nI k) 6 := vp_in_nI (by omega) (by omega)
      rw [bf] at hq
      unfold c_drain at hq
      refine k_X6_drain_31 ⟨fun hn => absurd ((n6 (by omega)).mp hn) (by omega), fun _ => ⟨hin, fun hp => k_X6_drain_86 ?_, fun hp => p_bec h1 fun μ2 m2 => k_X6_drain_60 ⟨hin, ?_⟩⟩⟩
      · rw [ck, h1.r (by decide)] at hp
        rw [if_pos hp] at hq
        rw [nI_1]
        exact ih (k + 1) _ μ1 (by omega) B1 hq
      · rw [ck, h1.r (by decide)] at hp
        rw [if_neg hp] at hq
        rw [ck]
        have m3 := m2.tr (mr.ms (g := 1) (a := 15) (k := k) (μ := μ2) (v := 0) (by decide))
        rw [m2.1] at m3
        refine p_wellT (by omega) (m3.bk h1.1) m3.1 (gw_up h.2.2.1 (by decide) (by decide)) (gr_up h.2.2.2.1 (by rw [(hi_15 (show k < 6 by omega)).1, (hi_15 (show k < 6 by omega)).2, i_0]; omega)) fun μ4 m4 g4 => k_X6_drain_83 ?_
        have m5 := m3.tr m4
        rw [m3.cd, B1.1.cd] at m5 g4 ⊢
        refine p_offer (B1.m1 m5 g4) fun μ6 B6 => k_X6_drain_86 ?_
        rw [nI_1]
        exact ih (k + 1) _ μ6 (by omega) B6 hq
  exact lp 6 0 _ μ2 (by omega) B2 (hq N hN rfl (bi_n hy))
theorem p_strike {y x : Int32} (h : cg μ n e S) (hbad : ¬ ((0 ≤ y ∧ y ≤ 30) ∧ (0 ≤ x ∧ x ≤ 1)) → Q (some (.inl (-2))) μ) (hq : ∀ N, N ≤ 30 → y = nI N → (0 ≤ x ∧ x ≤ 1) → ∀ μ', sx μ μ' → Q (some (.inl (ansB (bf (c_strike (y_V (μ.1 10 0) e) N S) (gP S) 0 (-1, y_well (y_ys (y_V (μ.1 10 0) e) N S))) x))) μ') : si_W sc (d + 7) 100 0 [some (.inr (.inr (6, 0))), some (.inl y), some (.inl x), none] [] μ Q := by
  refine k_X6_strike_0 (p_isSpan (k_X6_strike_4 ⟨fun hz => hbad (fun a => bi_0.mp hz a.1), fun hz => p_isFoundOrWell (k_X6_strike_11 ⟨fun hy => ?_, fun hy => hbad (fun a => bi_0.mp hy a.2)⟩)⟩))
  obtain ⟨N, hN, rfl⟩ := sp_n (bi_n hz)
  have h8 := h.2.2.1.1
  refine p_wellAsNow (by omega) h fun μ1 m1 s1 => k_X6_strike_26 (p_start s1 fun μ2 B2 => k_X6_strike_29 ?_)
  have lp : ∀ (m k : Nat) (q : Int32 × Int32) (μ1 : si_Mm), k + m = gP S → BI μ μ1 q → (∀ μ', sx μ μ' → Q (some (.inl (ansB (bf (c_strike (y_V (μ.1 10 0) e) N S) m k q) x))) μ') → si_W sc (d + 7) 100 31 [some (.inr (.inr (6, 0))), some (.inl (nI N)), some (.inl x), some (.inl (nI k))] [] μ1 Q := by
    intro m
    induction m with
    | zero =>
      intro k q μ1 hk B1 hq
      refine k_X6_strike_31 ⟨fun _ => p_answer B1.2 (k_X6_strike_108 (hq μ1 B1.1)), fun hn => absurd ?_ hn⟩
      rw [(B1.1.cg h).P, nI_le8 (by omega) (by omega)]; omega
    | succ m ih =>
      intro k q μ1 hk B1 hq
      have h1 := B1.1.cg h
      have ck : (nI k).toNatClampNeg = k := nI_c (by omega)
      have hin : vp_in (nI k) 8 := vp_in_nI (by omega) (by omega)
      rw [bf] at hq
      unfold c_strike at hq
      refine k_X6_strike_31 ⟨fun hn => ?_, fun _ => ⟨hin, fun hp => k_X6_strike_94 ?_, fun hp => p_bec h1 fun μ2 m2 => k_X6_strike_67 ⟨hin, ?_⟩⟩⟩
      · rw [h1.P, nI_le8 (by omega) (by omega)] at hn; omega
      · rw [ck, h1.r (by decide)] at hp
        rw [if_pos hp] at hq
        rw [nI_1]
        exact ih (k + 1) _ μ1 (by omega) B1 hq
      · rw [ck, h1.r (by decide)] at hp
        rw [if_neg hp] at hq
        rw [ck]
        have m3 := m2.tr (mr.ms (g := 1) (a := 18) (k := k) (μ := μ2) (v := -5) (by decide))
        rw [m2.1] at m3
        have e5 : (-5 : Int32).toInt = -5 := by decide
        refine p_wellT (by omega) (m3.bk h1.1) m3.1 (gw_pl h.2.2.1 (Or.inl rfl)) (gr_up h.2.2.2.1 (by rw [(hi_18 (show k < 8 by omega)).1, (hi_18 (show k < 8 by omega)).2, e5]; omega)) fun μ4 m4 g4 => k_X6_strike_91 ?_
        have m5 := m3.tr m4
        rw [m3.cd, B1.1.cd] at m5 g4 ⊢
        refine p_offer (B1.m1 m5 g4) fun μ6 B6 => k_X6_strike_94 ?_
        rw [nI_1]
        exact ih (k + 1) _ μ6 (by omega) B6 hq
  exact lp (gP S) 0 _ μ2 (by omega) B2 (hq N hN rfl (bi_n hy))
end PX
