/-! more of the class's calls -/
noncomputable def y_film (V : VT) (t s : Nat) : Nat → Nat → gS → shT → shT
  | 0, _, _, R => R
  | m + 1, k, S, R => y_film V t s m (k + 1) (y_year V S) (r_put R t k ((y_year V S) 14 s))
def okF (w x y : Int32) : Prop := (0 ≤ w ∧ w ≤ 3) ∧ (0 ≤ x ∧ x ≤ 5) ∧ (0 ≤ y ∧ y ≤ 30)
noncomputable def A_film (w x y : Int32) : Int32 := ic (okF w x y) y (-2)
noncomputable def N_film (V : VT) (S : gS) (R : shT) (w x y : Int32) : shT := ic (okF w x y) (y_film V w.toNatClampNeg x.toNatClampNeg y.toNatClampNeg 0 S (r_lay R w.toNatClampNeg 0 y.toNatClampNeg)) R
def dr_z (q : Int32) : Int32 := q * 1103515245 + 12345
def dr_l (q : Int32) : Int32 := ((q.toUInt32 >>> ((9 : Int32).toUInt32 &&& Int32.toUInt32 31)).toInt32 - (q.toUInt32 >>> ((9 : Int32).toUInt32 &&& Int32.toUInt32 31)).toInt32 / 20 * 20)
def y_dr1 : Nat → Nat → Int32 → gS → Int32 × gS
  | 0, _, q, S => (q, S)
  | m + 1, k, q, S => y_dr1 m (k + 1) (dr_z q) (upS S 14 k (mx0 (S 14 k - dr_l (dr_z q))))
noncomputable def y_drn (V : VT) : Nat → Int32 → gS → gS
  | 0, _, S => S
  | m + 1, q, S => y_drn V m (y_dr1 6 0 q S).1 (y_year V (y_dr1 6 0 q S).2)
noncomputable def y_wd (V : VT) (S : gS) (q : Int32) (N : Nat) : Int32 := y_well (y_drn V N q S)
noncomputable def A_drawn (V : VT) (S : gS) (q y : Int32) : Int32 := ic (0 ≤ y ∧ y ≤ 30) (y_wd V S q y.toNatClampNeg) (-2)
noncomputable def y_hits (V : VT) (S : gS) (q k : Int32) : Nat → Nat → Nat → Nat
  | 0, _, a => a
  | m + 1, i, a => y_hits V S q k m (i + 1) (if y_wd V S (q + nI i) 10 < k then a else a + 1)
def sdN (h m : Nat) : Nat → Nat
  | 0 => 1
  | d + 1 => if d = 0 then 1 else if h % (d + 1) = 0 ∧ m % (d + 1) = 0 then d + 1 else sdN h m d
def okC (w k p : Int32) : Prop := (1 ≤ w ∧ w ≤ 20) ∧ (0 ≤ k ∧ k ≤ 594) ∧ (0 ≤ p ∧ p ≤ 1)
def c_frac (h m : Nat) (p : Int32) : Int64 := if p = 0 then Int32.toInt64 (nI (h / sdN h m m)) else Int32.toInt64 (nI (m / sdN h m m))
noncomputable def A_chance (V : VT) (S : gS) (q w k p : Int32) : Int64 := ic (okC w k p) (c_frac (y_hits V S q k w.toNatClampNeg 0 0) w.toNatClampNeg p) (si_c64 0)
theorem dr_n (q : Int32) : ∃ j, j < 20 ∧ dr_l q = nI j := by
  have h1 := pk_ushr q 9 9 (by decide)
  have h2 : q.toBitVec.toNat < 2 ^ 32 := q.toBitVec.isLt
  generalize hx : (q.toUInt32 >>> ((9 : Int32).toUInt32 &&& Int32.toUInt32 31)).toInt32 = x at h1
  have hxn : x = nI (q.toBitVec.toNat / 2 ^ 9) := by
    have h3 := pk_tn (n := q.toBitVec.toNat / 2 ^ 9) (by omega)
    rw [← h1] at h3
    apply Int32.toBitVec_inj.mp
    apply BitVec.eq_of_toNat_eq
    rw [← h1]; exact h3.symm
  refine ⟨q.toBitVec.toNat / 2 ^ 9 % 20, Nat.mod_lt _ (by decide), ?_⟩
  unfold dr_l
  rw [hx, hxn]
  exact pk_rem (d := 20) (by omega) (by decide) (by decide)
theorem gwr_dr {S : gS} {n k : Nat} {q : Int32} (hw : gw S n) (hr : gr S) (hk : k < 6) : gw (upS S 14 k (mx0 (S 14 k - dr_l q))) n ∧ gr (upS S 14 k (mx0 (S 14 k - dr_l q))) := by
  obtain ⟨j, hj, e⟩ := dr_n q
  refine ⟨gw_up hw (by decide) (by decide), gr_up hr ?_⟩
  have h1 := gr14 hr hk
  rw [(hi_14 hk).1, (hi_14 hk).2, mx0_i, e, i_sub (by rw [nI_toInt (by omega)]; omega) (by rw [nI_toInt (by omega)]; omega), nI_toInt (by omega)]
  split <;> omega
theorem gwr_dr1 {n : Nat} : ∀ (m k : Nat) (q : Int32) (S : gS), k + m ≤ 6 → gw S n → gr S → gw (y_dr1 m k q S).2 n ∧ gr (y_dr1 m k q S).2
  | 0, _, _, _, _, h1, h2 => ⟨h1, h2⟩
  | m + 1, k, q, S, hk, h1, h2 => by
    have h3 := gwr_dr (q := dr_z q) h1 h2 (show k < 6 by omega)
    exact gwr_dr1 m (k + 1) _ _ (by omega) h3.1 h3.2
theorem gwr_drn {V : VT} {n : Nat} (hV : vr V) : ∀ (m : Nat) (q : Int32) (S : gS), gw S n → gr S → gw (y_drn V m q S) n ∧ gr (y_drn V m q S)
  | 0, _, _, h1, h2 => ⟨h1, h2⟩
  | m + 1, q, S, h1, h2 => by
    have h3 := gwr_dr1 6 0 q S (by omega) h1 h2
    exact gwr_drn hV m _ _ (gw_year h3.1) (gr_year hV h3.1 h3.2)
theorem sdN_pos (h m : Nat) : ∀ d, 1 ≤ sdN h m d ∧ sdN h m d ≤ d + 1
  | 0 => ⟨Nat.le_refl 1, Nat.le_refl 1⟩
  | d + 1 => by
    unfold sdN
    by_cases e : d = 0
    · rw [if_pos e]; omega
    · rw [if_neg e]
      by_cases e2 : h % (d + 1) = 0 ∧ m % (d + 1) = 0
      · rw [if_pos e2]; omega
      · rw [if_neg e2]; have := sdN_pos h m d; omega
theorem y_hits_le {V : VT} {S : gS} {q k : Int32} : ∀ (m i a : Nat), y_hits V S q k m i a ≤ a + m
  | 0, _, _ => Nat.le_refl _
  | m + 1, i, a => by
    unfold y_hits
    split
    · have := y_hits_le (V := V) (S := S) (q := q) (k := k) m (i + 1) a; omega
    · have := y_hits_le (V := V) (S := S) (q := q) (k := k) m (i + 1) (a + 1); omega
theorem rg_n {x lo hi : Int32} {A : Nat} (hlo : 0 ≤ lo.toInt) (hA : hi.toInt = A) (h : lo ≤ x ∧ x ≤ hi) : x.toNatClampNeg ≤ A ∧ x = nI x.toNatClampNeg ∧ lo.toInt ≤ (x.toNatClampNeg : Int) := by
  obtain ⟨h1, h2⟩ := h
  rw [i_le] at h1 h2
  rw [hA] at h2
  have hr := fb_rng0 x
  have e : x = nI x.toInt.toNat := by rw [i_eq, nI_toInt (by omega)]; omega
  have c : x.toNatClampNeg = x.toInt.toNat := by
    conv => lhs; rw [e]
    exact nI_clamp (by omega)
  rw [c]
  exact ⟨by omega, e, by omega⟩
section CE
variable {sc : si_Sc} {d : Nat} {μ : si_Mm} {Q : si_Po} {n : Nat} {V : VT} {S : gS} {K : Option gS} {R : shT} {zz : Nat} {f : Nat → Int32} {w o v x y : Int32}
theorem cc_feed (h : CI μ n V S K R zz f) (hq : ∀ μ', cf μ μ' → CI μ' n V S K R (N_fz zz x) (N_ff zz f x) → Q (some (.inl (A_feed zz x))) μ') : si_W sc (d + 1) 86 0 [some (.inr (.inr (6, 0))), some (.inl x)] [] μ Q := by
  have h0 := h
  obtain ⟨e, h1, h2, h3, h4, h5, h6, h7⟩ := h
  unfold A_feed N_fz N_ff at hq
  refine k_X6_feed_0 (p_isWithin (k_X6_feed_8 ⟨fun hz => ?_, fun hz => ?_⟩))
  · have hb := bi_n hz
    rw [ic_t hb, ic_t hb, ic_t hb] at hq
    have e160 : (160 : Int32) = nI 160 := rfl
    have hzz : zz ≤ 160 := h4.1
    have czz : (nI zz).toNatClampNeg = zz := nI_c (by omega)
    refine k_X5_add_0 ⟨fun hl => ?_, fun hl => ?_⟩
    · rw [h4.2.1, e160, nI_lt8 (by omega) (by omega)] at hl
      have hn : ¬ zz = 160 := by omega
      rw [ic_f hn, ic_f hn, ic_f hn] at hq
      rw [h4.2.1]
      refine ⟨vp_in_nI (by omega) (by omega), ?_⟩
      rw [czz]
      have e1 : (si_ms μ 25 0 zz x).1 5 0 1 = nI zz := by rw [ms_eq, if_neg (by simp)]; exact h4.2.1
      rw [e1, nI_1]
      have e2 : (si_ms (si_ms μ 25 0 zz x) 5 0 1 (nI (zz + 1))).1 5 0 1 = nI (zz + 1) := by rw [ms_eq, if_pos ⟨rfl, rfl, rfl⟩]
      rw [e2]
      refine k_X6_feed_22 (hq _ ?_ ?_)
      · refine ⟨fun a i ha => ?_, rfl⟩
        have := rT_or ha
        rw [si_ms_ne _ _ _ (fun q => by cases q; omega), si_ms_ne _ _ _ (fun q => by cases q; omega)]
      · have fr : ∀ a i, a ≠ 25 → a ≠ 5 → (si_ms (si_ms μ 25 0 zz x) 5 0 1 (nI (zz + 1))).1 a i = μ.1 a i := fun a i a1 a2 => by
          rw [si_ms_ne _ _ _ (fun q => a2 (congrArg Prod.fst q)), si_ms_ne _ _ _ (fun q => a1 (congrArg Prod.fst q))]
        have fv : ∀ g, vw (si_ms (si_ms μ 25 0 zz x) 5 0 1 (nI (zz + 1))) g = vw μ g := fun g => by
          funext a
          unfold vw
          by_cases ga : gt a = true
          · rw [if_pos ga, if_pos ga]
            unfold gt at ga
            rw [Bool.or_eq_true, Bool.and_eq_true, Nat.beq_eq, Nat.ble_eq, Nat.ble_eq] at ga
            exact fr a g (by omega) (by omega)
          · rw [if_neg ga, if_neg ga]
        refine ⟨e, ⟨⟨h1.1.1, fun k hk => ?_, h1.1.2.2⟩, (fv 0).trans h1.2.1, h1.2.2.1, h1.2.2.2.1, ?_, ?_⟩, ?_, bkx_of (fr _ _ (by decide) (by decide)) h3, ⟨by omega, e2, fun i hi => ?_⟩, CR_of (fr _ _ (by decide) (by decide)) (fr _ _ (by decide) (by decide)) (fr _ _ (by decide) (by decide)) h5, kp_of (fr _ _ (by decide) (by decide)) (fv 2) h6, h7⟩
        · rw [fr 11 0 (by decide) (by decide)]; exact h1.1.2.1 k hk
        · rw [fv]; exact h1.2.2.2.2.1
        · rw [fv]; exact h1.2.2.2.2.2
        · rw [fr 10 0 (by decide) (by decide)]; exact h2
        · rw [ms_eq, if_neg (by simp), ms_eq]
          by_cases ei : i = zz
          · rw [if_pos ⟨rfl, rfl, ei⟩, ei, fu_eq]
          · rw [if_neg (fun q => ei q.2.2), fu_ne ei]; exact h4.2.2 i (by omega)
    · rw [h4.2.1, e160, nI_lt8 (by omega) (by omega)] at hl
      have hn : zz = 160 := by omega
      rw [ic_t hn, ic_t hn, ic_t hn] at hq
      exact k_X6_feed_22 (hq μ cf.rf h0)
  · have hb := bi_0.mp hz
    rw [ic_f hb, ic_f hb, ic_f hb] at hq
    exact hq μ cf.rf h0
theorem cc_force (h : CI μ n V S K R zz f) (hq : ∀ μ', cf μ μ' → CI μ' n V (N_force n S x) K R zz f → Q (some (.inl (A_force n S x))) μ') : si_W sc (d + 1) 88 0 [some (.inr (.inr (6, 0))), some (.inl x), none] [] μ Q := by
  have h0 := h
  obtain ⟨e, h1, h2, h3, h4, h5, h6, h7⟩ := h
  have hn6 := h1.1.1
  have hn1 := h3.1
  unfold A_force N_force at hq
  refine k_X6_force_0 (p_isWithin (k_X6_force_14 ⟨fun hz => ?_, fun hz => ?_⟩))
  · have hb := bi_n hz
    rw [h3.2.1] at hb
    rw [ic_t hb, ic_t hb] at hq
    rw [h1.r (by decide)]
    have m0 := mr.ms (g := 0) (a := 2) (k := 5) (μ := μ) (v := x) (by decide)
    rw [h1.2.1] at m0
    have hx := rg_n (A := n - 1) (by decide) (by rw [nI_sub1 (by omega) (by omega), nI_toInt (by omega)]) hb
    have eR : gR (upS S 2 5 x) = x.toNatClampNeg := by unfold gR; rw [upS_eq]
    have eP : gP (upS S 2 5 x) = gP S := by unfold gP upS; rw [if_neg (by decide)]
    have hw := h1.2.2.1
    refine hq _ m0.cf (h0.m0 m0 ⟨by rw [eP]; exact hw.1, ?_, by rw [eR]; omega, by rw [eR, upS_eq]; exact hx.2.1, fun p hp => ?_⟩ (gr_up h1.2.2.2.1 ?_) (yr_up (Or.inr (by decide)) h7))
    · rw [eP]; unfold upS; rw [if_neg (by decide)]; exact hw.2.1
    · rw [eP] at hp; rw [upS_ne (by decide)]; exact hw.2.2.2.2 p hp
    · rw [hi_2.2.2.2.2.2.2.1, hi_2.2.2.2.2.2.2.2.1, hx.2.1, nI_toInt (by omega)]; omega
  · have hb := bi_0.mp hz
    rw [h3.2.1] at hb
    rw [ic_f hb, ic_f hb] at hq
    exact hq μ cf.rf h0
theorem year_2 {V : VT} : (y_year V S) 2 2 = S 2 2 + 1 := by
  have g1 : ∀ (S : gS) (k : Nat), (y_grow V S k) 2 2 = S 2 2 := by
    intro S k
    unfold y_grow y_grow2 y_grow1
    cases who S k with
    | none => show upS S 14 k _ 2 2 = _; rw [upS_ne (by decide)]
    | some p => show upS _ 14 k _ 2 2 = _; rw [upS_ne (by decide), upS_ne (by decide)]
  have g2 : ∀ (S : gS) (k : Nat), (y_w V S k) 2 2 = S 2 2 := by
    intro S k
    unfold y_w y_warn
    have e1 : (y_warn1 S k (stO S k)) 2 2 = S 2 2 := by
      unfold y_warn1
      split
      · rfl
      · rw [upS_ne (by decide)]
    split
    · generalize y_warn1 S k (stO S k) = S1 at e1 ⊢
      unfold y_warn2
      split
      · split
        · rw [upS_ne (by decide), upS_ne (by decide)]; exact e1
        · rw [upS_ne (by decide)]; exact e1
      · rw [upS_ne (by decide)]; exact e1
    · rfl
  have g3 : ∀ (S : gS) (k : Nat), (y_wait S k) 2 2 = S 2 2 := by
    intro S k
    unfold y_wait
    split
    · rw [upS_ne (by decide)]
    · rfl
  have g4 : ∀ (S : gS) (k : Nat), (y_hand S k) 2 2 = S 2 2 := by
    intro S k
    unfold y_hand
    cases who S k with
    | some _ => rfl
    | none =>
      cases y_first S k (gP S) 0 none with
      | none => rfl
      | some p => show y_in S p k 2 2 = _; unfold y_in; rw [upS_ne (by decide), upS_ne (by decide), upS_ne (by decide)]
  have gl : ∀ (F : gS → Nat → gS), (∀ S k, (F S k) 2 2 = S 2 2) → ∀ (m k : Nat) (S : gS), (y_l F m k S) 2 2 = S 2 2 := by
    intro F hF m
    induction m with
    | zero => exact fun k S => rfl
    | succ m ih => exact fun k S => (ih (k + 1) (F S k)).trans (hF S k)
  unfold y_year
  show upS _ 2 2 _ 2 2 = _
  rw [upS_eq, gl _ g4, gl _ g3, gl _ g2, gl _ g1]
theorem cc_year (h : CI μ n V S K R zz f) (hq : ∀ μ', cf μ μ' → CI μ' n V (N_year V S) K R zz f → Q (some (.inl (A_year V S))) μ') : si_W sc (d + 5) 89 0 [some (.inr (.inr (6, 0)))] [] μ Q := by
  have h0 := h
  obtain ⟨e, h1, h2, h3, h4, h5, h6, h7⟩ := h
  unfold A_year N_year at hq
  refine k_X6_year_0 ⟨fun hl => ?_, fun hl => ?_⟩
  · rw [h1.r (by decide)] at hl
    rw [ic_t hl, ic_t hl] at hq
    refine p_passYear h1.1 (by rw [h1.2.1]; exact h1.2.2.1) fun μ1 m1 => k_X6_year_23 ?_
    rw [h1.2.1, ← h2] at m1
    have w1 : gw (y_year V S) n := gw_year h1.2.2.1
    have c1 := h0.m0 m1 w1 (gr_year h0.vr h1.2.2.1 h1.2.2.2.1) (by
      unfold yr
      have hy := h0.yr
      unfold yr at hy
      rw [i_lt, i_999] at hl
      rw [year_2, i_add (by rw [i_1]; omega) (by rw [i_1]; omega), i_1]; omega)
    have g1 := c1.choose_spec.1
    refine p_peopleAt g1.P g1.2.2.1.1 (k_X6_year_32 ?_)
    rw [g1.r (by decide)]
    exact hq μ1 m1.cf c1
  · rw [h1.r (by decide)] at hl
    rw [ic_f hl, ic_f hl] at hq
    exact hq μ cf.rf h0
theorem cc_count (h : CI μ n V S K R zz f) (hq : Q (some (.inl (A_count n S zz w))) μ) : si_W sc (d + 1) 115 0 [some (.inr (.inr (6, 0))), some (.inl w)] [] μ Q := by
  obtain ⟨e, h1, h2, h3, h4, h5, h6, h7⟩ := h
  have h8 := h1.2.2.1.1
  unfold A_count at hq
  refine k_X6_count_0 ⟨fun c0 => ?_, fun c0 => ⟨fun c1 => ?_, fun c1 => ⟨fun c2 => ?_, fun c2 => ⟨fun c3 => ?_, fun c3 => ⟨fun c4 => ?_, fun c4 => ⟨fun c5 => ?_, fun c5 => ⟨fun c6 => ?_, fun c6 => ⟨fun c7 => ?_, fun c7 => ?_⟩⟩⟩⟩⟩⟩⟩⟩
  · rw [if_pos c0] at hq; rw [h1.P]; exact hq
  · rw [if_neg c0, if_pos c1] at hq
    refine p_peopleAt h1.P h8 (k_X6_count_71 (p_peopleAt h1.P h8 (k_X6_count_81 ?_)))
    rw [h1.P, h1.r (by decide)]; exact hq
  · rw [if_neg c0, if_neg c1, if_pos c2] at hq
    refine p_peopleAt h1.P h8 (k_X6_count_91 ?_)
    rw [h1.r (by decide)]; exact hq
  · rw [if_neg c0, if_neg c1, if_neg c2, if_pos c3] at hq
    refine p_peopleAt h1.P h8 (k_X6_count_101 ?_)
    rw [h1.r (by decide)]; exact hq
  · rw [if_neg c0, if_neg c1, if_neg c2, if_neg c3, if_pos c4] at hq
    rw [h1.r (by decide)]; exact hq
  · rw [if_neg c0, if_neg c1, if_neg c2, if_neg c3, if_neg c4, if_pos c5] at hq
    rw [h3.2.1]; exact hq
  · rw [if_neg c0, if_neg c1, if_neg c2, if_neg c3, if_neg c4, if_neg c5, if_pos c6] at hq
    rw [h4.2.1]; exact hq
  · rw [if_neg c0, if_neg c1, if_neg c2, if_neg c3, if_neg c4, if_neg c5, if_neg c6, if_pos c7] at hq
    rw [h1.r (by decide)]; exact hq
  · rw [if_neg c0, if_neg c1, if_neg c2, if_neg c3, if_neg c4, if_neg c5, if_neg c6, if_neg c7] at hq
    exact hq
theorem cc_image (h : CI μ n V S K R zz f) (hq : ∀ μ', cf μ μ' → CI μ' n V S (some S) R zz f → Q (some (.inl (nI (gP S)))) μ') : si_W sc (d + 1) 113 0 [some (.inr (.inr (6, 0)))] [] μ Q := by
  obtain ⟨e, h1, h2, h3, h4, h5, h6, h7⟩ := h
  refine k_X6_image_0 (p_become (by decide) h1.2.2.2.2.2 (by rw [h1.2.1]; exact h1.2.2.2.1) fun μ1 m1 => k_X6_image_11 ⟨Or.inr rfl, ?_⟩)
  rw [h1.2.1] at m1
  have fr : ∀ a, gt a = false → a ≠ 12 → a ≠ 13 → a ≠ 6 → (si_ms μ1 6 0 8 1).1 a 0 = μ.1 a 0 := fun a ga a1 a2 a6 => by
    rw [si_ms_ne _ _ _ (fun q => a6 (congrArg Prod.fst q))]
    exact m1.2.1 a 0 (fun q => absurd q.2 (by decide)) a1 a2
  have fv : ∀ g, vw (si_ms μ1 6 0 8 1) g = vw μ1 g := fun g => by
    funext a
    unfold vw
    by_cases ga : gt a = true
    · rw [if_pos ga, if_pos ga]
      exact si_ms_ne _ _ _ (fun q => by cases q; exact absurd ga (by decide))
    · rw [if_neg ga, if_neg ga]
  have v0 : vw μ1 0 = S := (mr_vw m1 (by decide)).trans h1.2.1
  have v1 : vw μ1 1 = vw μ 1 := mr_vw m1 (by decide)
  have e6 : (si_ms μ1 6 0 8 1).1 2 2 6 = nI (gP S) := by
    rw [ms_eq, if_neg (by simp)]
    have : μ1.1 2 2 = S 2 := by rw [← m1.1, vw_at (by decide)]
    rw [this]; exact h1.2.2.1.2.1
  rw [e6]
  refine hq _ ?_ ⟨e, ⟨⟨h1.1.1, fun k hk => ?_, h1.1.2.2⟩, by rw [fv, v0], h1.2.2.1, h1.2.2.2.1, ?_, ?_⟩, ?_, bkx_of (fr _ (by decide) (by decide) (by decide) (by decide)) h3, tp_of (fr _ (by decide) (by decide) (by decide) (by decide)) (fr _ (by decide) (by decide) (by decide) (by decide)) h4, CR_of (fr _ (by decide) (by decide) (by decide) (by decide)) (fr _ (by decide) (by decide) (by decide) (by decide)) (fr _ (by decide) (by decide) (by decide) (by decide)) h5, ⟨?_, ?_, h1.2.2.1, h7⟩, h7⟩
  · refine ⟨fun a i ha => ?_, m1.2.2⟩
    have := rT_or ha
    rw [si_ms_ne _ _ _ (fun q => by cases q; omega)]
    exact m1.cf.1 a i ha
  · rw [fr 11 (by decide) (by decide) (by decide) (by decide)]; exact h1.1.2.1 k hk
  · rw [fv, v1]; exact h1.2.2.2.2.1
  · rw [fv, m1.1]; exact h1.2.2.2.1
  · rw [fr 10 (by decide) (by decide) (by decide) (by decide)]; exact h2
  · rw [ms_eq, if_pos ⟨rfl, rfl, rfl⟩]
  · rw [fv, m1.1]
theorem cc_back (h : CI μ n V S K R zz f) (hq : ∀ μ', cf μ μ' → CI μ' n V (N_back S K) K R zz f → Q (some (.inl (A_back K))) μ') : si_W sc (d + 1) 114 0 [some (.inr (.inr (6, 0)))] [] μ Q := by
  have h0 := h
  obtain ⟨e, h1, h2, h3, h4, h5, h6, h7⟩ := h
  unfold A_back N_back at hq
  cases K with
  | none => exact k_X6_back_0 ⟨fun hn => absurd h6 hn, fun _ => hq μ cf.rf h0⟩
  | some S2 =>
    obtain ⟨k1, k2, k3, k4⟩ := h6
    refine k_X6_back_0 ⟨fun _ => p_become (by decide) (by rw [h1.2.1]; exact h1.2.2.2.1) h1.2.2.2.2.2 fun μ1 m1 => k_X6_back_21 ?_, fun hn => by rw [k1] at hn; exact absurd hn (by decide)⟩
    rw [k2] at m1
    have c1 := h0.m0 m1 k3 (by rw [← k2]; exact h1.2.2.2.2.2) k4
    have g1 := c1.choose_spec.1
    rw [g1.P]
    exact hq μ1 m1.cf c1
end CE
