/-! the reference: give, strikeOff, feed, force, year, count, taken, run, takes -/
section RX3
variable {sc : si_Sc} {d : Nat} {μ μ' : si_Mm} {Q : si_Po} {n : Nat} {V : VT} {S S' : gS} {K : Option gS} {R : shT} {zz : Nat} {f : Nat → Int32} {w o v x y : Int32}
theorem RI.pu {p : Nat} (h : RI μ n V S K R zz f) (h18 : S' 18 p = v) (hz : 0 ≤ v → S' 19 p = 0 ∧ S' 20 p = 0) (hs : ∀ a k, ¬ (a = 18 ∧ k = p) → ¬ (a = 19 ∧ k = p) → ¬ (a = 20 ∧ k = p) → S' a k = S a k) (hw' : gw S' n) (hr' : gr S') : RI (pc3 μ p v) n V S' K R zz f := by
  have hf : fx Jg Ag μ (pc3 μ p v) := fx.pc
  have hP : gP S' = gP S := by unfold gP; rw [hs 2 6 (by omega) (by omega) (by omega)]
  exact h.g hf.go ⟨h.1.1.pu h18 hz hs, hw', hr', h.1.2.2.2.1, h.1.2.2.2.2.1.g hf, h.1.2.2.2.2.2⟩ ⟨by omega, fun p _ => hs 16 p (by omega) (by omega) (by omega)⟩
theorem in_at {p s : Nat} : (y_in S p s) 18 p = nI s ∧ (y_in S p s) 19 p = 0 ∧ (y_in S p s) 20 p = 0 ∧ ∀ a k, ¬ (a = 18 ∧ k = p) → ¬ (a = 19 ∧ k = p) → ¬ (a = 20 ∧ k = p) → (y_in S p s) a k = S a k := by
  unfold y_in
  refine ⟨?_, ?_, ?_, fun a k n1 n2 n3 => ?_⟩
  · rw [upS_ne (by decide), upS_ne (by decide), upS_eq]
  · rw [upS_ne (by decide), upS_eq]
  · rw [upS_eq]
  · unfold upS; rw [if_neg n3, if_neg n2, if_neg n1]
theorem rc_give (h : RI μ n V S K R zz f) (hq : ∀ μ', rf μ μ' → RI μ' n V (N_give S o x) K R zz f → Q (some (.inl (A_give S o x))) μ') : si_W sc (d + 3) 193 0 [some (.inr (.inr (7, 0))), some (.inl o), some (.inl x)] [] μ Q := by
  have h8 := h.1.2.1.1
  unfold A_give N_give at hq
  refine k_X7_give_0 (r_isOne h.1.1 h.1.2.1 (k_X7_give_5 ⟨fun c => ?_, fun c => r_isStrip (k_X7_give_12 ⟨fun c2 => r_waits h.1.1 h.1.2.1 (k_X7_give_23 ⟨fun c3 => ?_, fun c3 => ?_⟩), fun c2 => ?_⟩)⟩))
  · have hn : ¬ (isP S o ∧ (0 ≤ x ∧ x ≤ 5)) := fun a => bc_0 c a.1
    rw [ic_f hn, ic_f hn] at hq; exact hq μ rf.refl h
  · have hc : isP S o ∧ (0 ≤ x ∧ x ≤ 5) := ⟨bc_n c, bc_n c2⟩
    have h3 := (bc_n c3).2
    rw [ic_t hc, ic_t hc, ic_t h3, ic_t h3] at hq
    have hp := isP_c h.1.2.1 hc.1
    obtain ⟨s, hs, rfl⟩ := st_n hc.2
    have cs : (nI s).toNatClampNeg = s := nI_c (by omega)
    rw [cs] at hq
    refine r_whose h.1.1 h.1.2.1 (k_X7_give_34 ⟨fun c4 => ?_, fun c4 => ?_⟩)
    · have c4' : wI S s = -1 := c4
      rw [ic_t c4', ic_t c4'] at hq
      generalize o.toNatClampNeg = p at hp hq
      obtain ⟨hpP, rfl⟩ := hp
      obtain ⟨i1, i2, i3, i4⟩ := in_at (S := S) (p := p) (s := s)
      refine r_puts (by omega) (k_X7_give_47 (hq _ (rf_of (fx.go fx.pc)) (h.pu i1 (fun _ => ⟨i2, i3⟩) i4 (gw_in hs h.1.2.1) (gr_in (by omega) hs h.1.2.2.1))))
    · have c4' : ¬ wI S s = -1 := c4
      rw [ic_f c4', ic_f c4'] at hq; exact hq μ rf.refl h
  · have hc : isP S o ∧ (0 ≤ x ∧ x ≤ 5) := ⟨bc_n c, bc_n c2⟩
    have h3 : ¬ S 18 o.toNatClampNeg = -1 := fun a => bc_0 c3 ⟨hc.1, a⟩
    rw [ic_t hc, ic_t hc, ic_f h3, ic_f h3] at hq; exact hq μ rf.refl h
  · have hn : ¬ (isP S o ∧ (0 ≤ x ∧ x ≤ 5)) := fun a => bc_0 c2 a.2
    rw [ic_f hn, ic_f hn] at hq; exact hq μ rf.refl h
theorem rc_off (h : RI μ n V S K R zz f) (hw' : gw (N_off S o) n) (hr' : gr (N_off S o)) (hq : ∀ μ', rf μ μ' → RI μ' n V (N_off S o) K R zz f → Q (some (.inl (A_off S o))) μ') : si_W sc (d + 3) 194 0 [some (.inr (.inr (7, 0))), some (.inl o), none] [] μ Q := by
  have h8 := h.1.2.1.1
  unfold A_off N_off at hq
  unfold N_off at hw' hr'
  refine k_X7_strikeOff_0 (r_isOne h.1.1 h.1.2.1 (k_X7_strikeOff_5 ⟨fun c => ?_, fun c => ?_⟩))
  · have hP := bc_n c
    rw [ic_t hP] at hw' hr'
    rw [ic_t hP, ic_t hP] at hq
    have hp := isP_c h.1.2.1 hP
    generalize o.toNatClampNeg = p at hp hq hw' hr'
    obtain ⟨hpP, rfl⟩ := hp
    refine r_stripOf h.1.1 hpP h8 (k_X7_strikeOff_16 ⟨fun c2 => r_puts (by omega) (k_X7_strikeOff_33 ?_), fun c2 => ?_⟩)
    · rw [ic_f c2] at hw' hr'
      rw [ic_f c2, ic_f c2] at hq
      exact hq _ (rf_of (fx.go fx.pc)) (h.pu upS_eq (fun q => absurd q (by decide)) (fun a k n1 _ _ => by unfold upS; rw [if_neg n1]) hw' hr')
    · rw [ic_t c2, ic_t c2] at hq; exact hq μ rf.refl h
  · have hP := bc_0 c
    rw [ic_f hP, ic_f hP] at hq; exact hq μ rf.refl h
theorem c255 : si_c64 12 = (255 : Int32).toInt64 := by decide +kernel
theorem rc_feed (h : RI μ n V S K R zz f) (hq : ∀ μ', rf μ μ' → RI μ' n V S K R (N_fz zz x) (N_ff zz f x) → Q (some (.inl (A_feed zz x))) μ') : si_W sc (d + 1) 189 0 [some (.inr (.inr (7, 0))), some (.inl x)] [] μ Q := by
  unfold A_feed N_fz N_ff at hq
  obtain ⟨h1, h2, ⟨t1, t2, t3⟩, h4, h5⟩ := h
  have hI : RI μ n V S K R zz f := ⟨h1, h2, ⟨t1, t2, t3⟩, h4, h5⟩
  have e160 : (160 : Int32) = nI 160 := rfl
  have cz : (nI zz).toNatClampNeg = zz := nI_c (by omega)
  refine k_X7_feed_0 (r_in l0 c255 (k_X7_feed_9 ⟨fun c => ?_, fun c => ?_⟩))
  · have hb := bc_n c
    rw [ic_t hb, ic_t hb, ic_t hb] at hq
    rw [t1, e160, nIe (by omega) (by omega)]
    refine ⟨fun c2 => ⟨vp_in_nI (by omega) (by omega), ?_⟩, fun c2 => ?_⟩
    · rw [ic_f c2, ic_f c2, ic_f c2] at hq
      rw [cz]
      have e1 : (si_ms μ 31 0 zz x).1 7 0 6 = nI zz := by rw [ms_eq, if_neg (by omega)]; exact t1
      rw [e1, nI_1]
      have e2 : (si_ms (si_ms μ 31 0 zz x) 7 0 6 (nI (zz + 1))).1 7 0 6 = nI (zz + 1) := by rw [ms_eq, if_pos ⟨rfl, rfl, rfl⟩]
      rw [e2]
      have oth : ∀ a i j, ¬ (a = 7 ∧ i = 0 ∧ j = 6) → ¬ (a = 31 ∧ i = 0 ∧ j = zz) → (si_ms (si_ms μ 31 0 zz x) 7 0 6 (nI (zz + 1))).1 a i j = μ.1 a i j := fun a i j n1 n2 => by rw [ms_eq, if_neg n1, ms_eq, if_neg n2]
      have e31 : (si_ms (si_ms μ 31 0 zz x) 7 0 6 (nI (zz + 1))).1 31 0 zz = x := by rw [ms_eq, if_neg (by omega), ms_eq, if_pos ⟨rfl, rfl, rfl⟩]
      generalize si_ms (si_ms μ 31 0 zz x) 7 0 6 (nI (zz + 1)) = μ1 at e2 oth e31
      have fa : ∀ a, a ≠ 7 → a ≠ 31 → μ1.1 a 0 = μ.1 a 0 := fun a n1 n2 => by funext j; exact oth a 0 j (by omega) (by omega)
      refine hq μ1 (fun a i ha => ?_) ⟨⟨h1.1.of (fun j hj => oth 7 0 j (by omega) (by omega)) (fa _ (by omega) (by omega)) (fa _ (by omega) (by omega)) (fa _ (by omega) (by omega)) (fun k _ => oth 35 0 k (by omega) (by omega)) h1.2.1.1, h1.2.1, h1.2.2.1, h1.2.2.2.1, h1.2.2.2.2.1.of (fa _ (by omega) (by omega)) (fa _ (by omega) (by omega)), h1.2.2.2.2.2⟩, (oth 7 0 3 (by omega) (by omega)).trans h2, ⟨e2, by omega, fun i hi => ?_⟩, h4.of (fa _ (by omega) (by omega)) (fa _ (by omega) (by omega)) (fa _ (by omega) (by omega)) (fa _ (by omega) (by omega)), h5.of (fun j hj => oth 7 0 j (by omega) (by omega)) (fa _ (by omega) (by omega)) (fa _ (by omega) (by omega)) (fa _ (by omega) (by omega)) ⟨Nat.le_refl _, fun _ _ => rfl⟩⟩
      · funext j
        have hn : ¬ (a = 7 ∨ 29 ≤ a) := fun q => by
          have : rT a = true := by unfold rT; rw [Bool.or_eq_true, Nat.beq_eq, Nat.ble_eq]; exact q
          rw [this] at ha; cases ha
        exact oth a i j (by omega) (by omega)
      · by_cases e : i = zz
        · subst e
          rw [e31, fu_eq]
          have := i_rng (A := 0) (B := 255) i_0 (by decide) hb
          exact ⟨rfl, this.1⟩
        · rw [oth 31 0 i (by omega) (by omega), fu_ne e]; exact t3 i (by omega)
    · rw [ic_t c2, ic_t c2, ic_t c2] at hq; exact hq μ rf.refl hI
  · have hb := bc_0 c
    rw [ic_f hb, ic_f hb, ic_f hb] at hq; exact hq μ rf.refl hI
theorem rc_force (h : RI μ n V S K R zz f) (hw' : gw (N_force n S x) n) (hr' : gr (N_force n S x)) (hq : ∀ μ', rf μ μ' → RI μ' n V (N_force n S x) K R zz f → Q (some (.inl (A_force n S x))) μ') : si_W sc (d + 1) 191 0 [some (.inr (.inr (7, 0))), some (.inl x), none] [] μ Q := by
  unfold A_force N_force at hq
  unfold N_force at hw' hr'
  refine k_X7_force_0 (r_in (b := μ.1 7 0 3 - 1) l0 rfl (k_X7_force_13 ⟨fun c => ?_, fun c => ?_⟩))
  · have hb := bc_n c
    rw [h.2.1] at hb
    rw [ic_t hb] at hw' hr'
    rw [ic_t hb, ic_t hb] at hq
    rw [h.1.1.2.2.2.1]
    have hf : fx Jo Ao μ (si_ms μ 7 0 4 x) := fx.o1 (by omega)
    exact hq _ (rf_of hf) (h.g hf ⟨h.1.1.f (by omega), hw', hr', h.1.2.2.2.1, h.1.2.2.2.2.1.of (si_ms_ne _ _ _ (by simp)) (si_ms_ne _ _ _ (by simp)), h.1.2.2.2.2.2⟩ ⟨by rw [gP2 (by decide)]; exact Nat.le_refl _, fun p _ => by rw [upS_ne (by decide)]⟩)
  · have hb := bc_0 c
    rw [h.2.1] at hb
    rw [ic_f hb, ic_f hb] at hq; exact hq μ rf.refl h
theorem year_k : gP (y_year V S) = gP S ∧ (y_year V S) 16 = S 16 := by
  have hP : gP (y_year V S) = gP S := gP_ys 1 S
  refine ⟨hP, ?_⟩
  have g1 : ∀ (S : gS) (k : Nat), (y_grow V S k) 16 = S 16 := by
    intro S k
    unfold y_grow y_grow2 y_grow1
    cases who S k with
    | none => show upS S 14 k _ 16 = _; rw [upS_ne (by decide)]
    | some p => show upS _ 14 k _ 16 = _; rw [upS_ne (by decide), upS_ne (by decide)]
  have g2 : ∀ (S : gS) (k : Nat), (y_w V S k) 16 = S 16 := by
    intro S k
    unfold y_w y_warn
    have e1 : (y_warn1 S k (stO S k)) 16 = S 16 := by
      unfold y_warn1
      split
      · rfl
      · rw [upS_ne (by decide)]
    split
    · generalize y_warn1 S k (stO S k) = S1 at e1 ⊢
      unfold y_warn2
      split
      · split
        · rw [upS_ne (by decide), upS_ne (by decide)]; exact e1
        · rw [upS_ne (by decide)]; exact e1
      · rw [upS_ne (by decide)]; exact e1
    · rfl
  have g3 : ∀ (S : gS) (k : Nat), (y_wait S k) 16 = S 16 := by
    intro S k
    unfold y_wait
    split
    · rw [upS_ne (by decide)]
    · rfl
  have g4 : ∀ (S : gS) (k : Nat), (y_hand S k) 16 = S 16 := by
    intro S k
    unfold y_hand
    cases who S k with
    | some _ => rfl
    | none =>
      cases y_first S k (gP S) 0 none with
      | none => rfl
      | some p => show y_in S p k 16 = _; unfold y_in; rw [upS_ne (by decide), upS_ne (by decide), upS_ne (by decide)]
  have gl : ∀ (F : gS → Nat → gS), (∀ S k, (F S k) 16 = S 16) → ∀ (m k : Nat) (S : gS), (y_l F m k S) 16 = S 16 := by
    intro F hF m
    induction m with
    | zero => exact fun k S => rfl
    | succ m ih => exact fun k S => (ih (k + 1) (F S k)).trans (hF S k)
  unfold y_year
  show upS _ 2 2 _ 16 = _
  rw [upS_ne (by decide), gl _ g4, gl _ g3, gl _ g2, gl _ g1]
theorem rc_year (h : RI μ n V S K R zz f) (hy : yr S) (hq : ∀ μ', rf μ μ' → RI μ' n V (N_year V S) K R zz f → Q (some (.inl (A_year V S))) μ') : si_W sc (d + 46) 202 0 [some (.inr (.inr (7, 0)))] [] μ Q := by
  unfold A_year N_year at hq
  unfold yr at hy
  refine k_X7_year_0 ?_
  rw [h.1.1.1]
  refine ⟨fun c => r_lives h.1 fun μ1 f1 h1 => k_X7_year_17 (r_howMany h1.1 h1.2.1 (k_X7_year_23 ?_)), fun c => ?_⟩
  · have hl : S 2 2 < 999 := by
      rw [i_lt, i_999]
      have : ¬ (S 2 2).toInt = 999 := fun e => c (by rw [i_eq, i_999]; exact e)
      omega
    rw [ic_t hl, ic_t hl] at hq
    have hk := year_k (V := V) (S := S)
    exact hq μ1 (rf_of f1.go) (h.g f1.go h1 ⟨by rw [hk.1]; exact Nat.le_refl _, fun p _ => by rw [hk.2]⟩)
  · have hl : ¬ S 2 2 < 999 := by rw [c]; decide
    rw [ic_f hl, ic_f hl] at hq
    exact hq μ rf.refl h
theorem c7 : si_c64 13 = (7 : Int32).toInt64 := by decide +kernel
theorem rc_count (h : RI μ n V S K R zz f) (hq : Q (some (.inl (A_count n S zz w))) μ) : si_W sc (d + 3) 228 0 [some (.inr (.inr (7, 0))), some (.inl w)] [] μ Q := by
  obtain ⟨h1, h2, h3, h4, h5⟩ := h
  unfold A_count at hq
  refine k_X7_count_0 (r_in l0 c7 (k_X7_count_9 ⟨fun c => ?_, fun c => ?_⟩))
  · have hb := rg_n (A := 7) (lo := 0) (hi := 7) (by decide) (by decide) (bc_n c)
    generalize w.toNatClampNeg = k at hb
    obtain ⟨hk, rfl, _⟩ := hb
    have e0 : (0 : Int32) = nI 0 := rfl
    have e1 : (1 : Int32) = nI 1 := rfl
    have e2 : (2 : Int32) = nI 2 := rfl
    have e3 : (3 : Int32) = nI 3 := rfl
    have e4 : (4 : Int32) = nI 4 := rfl
    have e5 : (5 : Int32) = nI 5 := rfl
    have e6 : (6 : Int32) = nI 6 := rfl
    have e7 : (7 : Int32) = nI 7 := rfl
    have f0 : nI k = 0 ↔ k = 0 := by rw [e0]; exact nIe (by omega) (by omega)
    have f1 : nI k = 1 ↔ k = 1 := by rw [e1]; exact nIe (by omega) (by omega)
    have f2 : nI k = 2 ↔ k = 2 := by rw [e2]; exact nIe (by omega) (by omega)
    have f3 : nI k ≤ 3 ↔ k ≤ 3 := by rw [e3]; exact nI_le8 (by omega) (by omega)
    have f4 : nI k = 4 ↔ k = 4 := by rw [e4]; exact nIe (by omega) (by omega)
    have f5 : nI k = 5 ↔ k = 5 := by rw [e5]; exact nIe (by omega) (by omega)
    have f6 : nI k = 6 ↔ k = 6 := by rw [e6]; exact nIe (by omega) (by omega)
    have g0 : ∀ k', k' ≤ 7 → k ≠ k' → nI k ≠ nI k' := fun k' h7 ne e => ne ((nIe (by omega) (by omega)).mp e)
    rw [f0, f1, f2, f3, f4, f5, f6]
    refine ⟨fun c3 => ⟨fun n0 => ⟨fun n1 => ⟨fun n2 => r_howMany h1.1 h1.2.1 (k_X7_count_113 ?_), fun c2 => r_howMany h1.1 h1.2.1 (k_X7_count_113 ?_)⟩, fun c1 => r_howMany h1.1 h1.2.1 (k_X7_count_87 (r_howMany h1.1 h1.2.1 (k_X7_count_94 (k_X7_count_113 ?_))))⟩, fun c0 => k_X7_count_113 ?_⟩, fun c3 => ⟨fun n4 => ⟨fun n5 => ⟨fun n6 => ?_, fun c6 => ?_⟩, fun c5 => ?_⟩, fun c4 => ?_⟩⟩
    · have ek : k = 3 := by omega
      subst ek; exact hq
    · subst c2; exact hq
    · subst c1; rw [h1.1.P h1.2.1]; exact hq
    · subst c0; rw [h1.1.P h1.2.1]; exact hq
    · have ek : k = 7 := by omega
      subst ek; rw [h1.1.2.2.2.1]; exact hq
    · subst c6; rw [h3.1]; exact hq
    · subst c5; rw [h2]; exact hq
    · subst c4; rw [h1.1.1]; exact hq
  · have hb := bc_0 c
    have ne : ∀ k : Nat, k ≤ 7 → w ≠ nI k := fun k hk e => hb (by rw [e]; exact ⟨nI_pos' (by omega), nI_le (b := 7) hk (by decide)⟩)
    rw [if_neg (show ¬ w = 0 from ne 0 (by omega)), if_neg (show ¬ w = 1 from ne 1 (by omega)), if_neg (show ¬ w = 2 from ne 2 (by omega)), if_neg (show ¬ w = 3 from ne 3 (by omega)), if_neg (show ¬ w = 4 from ne 4 (by omega)), if_neg (show ¬ w = 5 from ne 5 (by omega)), if_neg (show ¬ w = 6 from ne 6 (by omega)), if_neg (show ¬ w = 7 from ne 7 (by omega))] at hq
    exact hq
/-- the kinds above a kind -/
theorem uk_s {k a : Nat} (ha : a ≤ 5) {m : Nat} : uk (nI k) (m + 1) (nI a) ↔ (nI a = nI k ∨ uk (nI k) m (si_under a)) := by
  have hb : (0 : Int32) ≤ nI a ∧ nI a ≤ 5 := ⟨nI_pos' (by omega), nI_le (b := 5) ha (by decide)⟩
  conv => lhs; unfold uk
  rw [if_pos hb, nI_c (by omega)]
  by_cases e : nI a = nI k
  · rw [if_pos e]; exact ⟨fun _ => Or.inl e, fun _ => trivial⟩
  · rw [if_neg e]; exact ⟨Or.inr, fun q => q.resolve_left e⟩
theorem uk_m {k m : Nat} : ¬ uk (nI k) m (-1) := by
  cases m with
  | zero => exact id
  | succ m => unfold uk; rw [if_neg (by decide)]; exact id
theorem un_v : si_under 0 = -1 ∧ si_under 1 = nI 0 ∧ si_under 2 = nI 0 ∧ si_under 3 = nI 1 ∧ si_under 4 = nI 2 ∧ si_under 5 = nI 0 := by decide
theorem rc_taken (h : RI μ n V S K R zz f) (hq : Q (some (.inl (A_taken S o x))) μ) : si_W sc (d + 2) 233 0 [some (.inr (.inr (7, 0))), some (.inl o), some (.inl x), none] [] μ Q := by
  have h8 := h.1.2.1.1
  unfold A_taken at hq
  refine k_X7_taken_0 (r_in (b := 5) l0 (by decide +kernel) (k_X7_taken_9 ⟨fun c => r_isOne h.1.1 h.1.2.1 (k_X7_taken_20 ⟨fun c2 => ?_, fun c2 => ?_⟩), fun c => ?_⟩))
  · have hb := bc_n c
    rw [ic_t hb, ic_t (bc_n c2)] at hq
    obtain ⟨k, hk, rfl⟩ := st_n hb
    have hp := isP_c h.1.2.1 (bc_n c2)
    generalize o.toNatClampNeg = p at hp hq
    obtain ⟨hpP, rfl⟩ := hp
    have cp : (nI p).toNatClampNeg = p := nI_c (by omega)
    obtain ⟨q1, q2, _⟩ := h.1.1.2.2.2.2.2.2 p hpP
    have hin : vp_in (nI p) 8 := vp_in_nI (by omega) (by omega)
    have lp : ∀ (m a : Nat), a ≤ 5 → (if a = 0 then 1 else if a = 3 ∨ a = 4 then 3 else 2) ≤ m → Q (some (.inl (ic (uk (nI k) m (nI a)) (S 17 p) (-13)))) μ → si_W sc (d + 2) 233 33 [some (.inr (.inr (7, 0))), some (.inl (nI p)), some (.inl (nI k)), some (.inl (nI a))] [] μ Q := by
      obtain ⟨u0, u1, u2, u3, u4, u5⟩ := un_v
      intro m
      induction m with
      | zero =>
        intro a ha hr hq
        exfalso
        revert hr
        split
        · omega
        · split <;> omega
      | succ m ih =>
        intro a ha hr hq
        refine k_X7_taken_33 ⟨fun e => absurd e (nI_neg1 (by omega)), fun _ => ⟨fun e => ⟨fun ne => absurd e ne, fun _ => ⟨hin, ?_⟩⟩, fun ne => ?_⟩⟩
        · have hu : uk (nI k) (m + 1) (nI a) := (uk_s ha).mpr (Or.inl e)
          rw [ic_t hu] at hq
          rw [cp, q2]; exact hq
        · have hu : uk (nI k) (m + 1) (nI a) ↔ uk (nI k) m (si_under a) := ⟨fun q => ((uk_s ha).mp q).resolve_left ne, fun q => (uk_s ha).mpr (Or.inr q)⟩
          have nx : ∀ b : Nat, b ≤ 5 → si_under a = nI b → (if b = 0 then 1 else if b = 3 ∨ b = 4 then 3 else 2) ≤ m → si_W sc (d + 2) 233 33 [some (.inr (.inr (7, 0))), some (.inl (nI p)), some (.inl (nI k)), some (.inl (nI b))] [] μ Q := fun b hb eb hrb => ih b hb hrb (by
            rw [eb] at hu
            by_cases c : uk (nI k) m (nI b)
            · rw [ic_t (hu.mpr c)] at hq; rw [ic_t c]; exact hq
            · rw [ic_f (fun q => c (hu.mp q))] at hq; rw [ic_f c]; exact hq)
          rcases (show a = 0 ∨ a = 1 ∨ a = 2 ∨ a = 3 ∨ a = 4 ∨ a = 5 by omega) with rfl | rfl | rfl | rfl | rfl | rfl
          · rw [u0] at hu
            rw [ic_f (fun q => uk_m (hu.mp q))] at hq
            exact k_X7_over_0 ⟨fun c => absurd rfl c, fun _ => k_X7_taken_47 (k_X7_taken_33 ⟨fun _ => ⟨fun _ => hq, fun e => absurd e.symm (nI_neg1 (by omega))⟩, fun c => absurd rfl c⟩)⟩
          · exact k_X7_over_0 ⟨fun _ => ⟨fun _ => ⟨fun _ => k_X7_taken_47 (nx 0 (by omega) u1 (by rw [if_pos rfl]; rw [if_neg (by decide), if_neg (by decide)] at hr; omega)), fun c => absurd c (by decide)⟩, fun c => absurd c (by decide)⟩, fun c => absurd c (by decide)⟩
          · exact k_X7_over_0 ⟨fun _ => ⟨fun _ => ⟨fun _ => k_X7_taken_47 (nx 0 (by omega) u2 (by rw [if_pos rfl]; rw [if_neg (by decide), if_neg (by decide)] at hr; omega)), fun c => absurd c (by decide)⟩, fun c => absurd c (by decide)⟩, fun c => absurd c (by decide)⟩
          · exact k_X7_over_0 ⟨fun _ => ⟨fun c => absurd rfl c, fun _ => k_X7_taken_47 (nx 1 (by omega) u3 (by rw [if_neg (by decide), if_neg (by decide)]; rw [if_neg (by decide), if_pos (by decide)] at hr; omega))⟩, fun c => absurd c (by decide)⟩
          · exact k_X7_over_0 ⟨fun _ => ⟨fun _ => ⟨fun c => absurd rfl c, fun _ => k_X7_taken_47 (nx 2 (by omega) u4 (by rw [if_neg (by decide), if_neg (by decide)]; rw [if_neg (by decide), if_pos (by decide)] at hr; omega))⟩, fun c => absurd c (by decide)⟩, fun c => absurd c (by decide)⟩
          · exact k_X7_over_0 ⟨fun _ => ⟨fun _ => ⟨fun _ => k_X7_taken_47 (nx 0 (by omega) u5 (by rw [if_pos rfl]; rw [if_neg (by decide), if_neg (by decide)] at hr; omega)), fun c => absurd c (by decide)⟩, fun c => absurd c (by decide)⟩, fun c => absurd c (by decide)⟩
    have g16 := gr16 h.1.2.2.1 (show p < 8 by omega)
    obtain ⟨a, ha, e16⟩ : ∃ a, a ≤ 5 ∧ S 16 p = nI a := ⟨(S 16 p).toInt.toNat, by omega, by rw [i_eq, nI_toInt (by omega)]; omega⟩
    rw [q1]
    rw [e16] at hq ⊢
    exact ⟨hin, lp 6 a ha (by
      split
      · omega
      · split <;> omega) hq⟩
  · have hb := bc_n c
    rw [ic_t hb, ic_f (bc_0 c2)] at hq; exact hq
  · rw [ic_f (bc_0 c)] at hq; exact hq
end RX3
