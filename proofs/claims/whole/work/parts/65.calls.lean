/-! the class's calls, one by one, over its whole state -/
abbrev VT : Type := Nat → Nat → (Nat → Int32) → Int32
def okT (x y : Int32) : Prop := (0 ≤ x ∧ x ≤ 5) ∧ (0 ≤ y ∧ y ≤ 9)
noncomputable def A_set (V : VT) (S : gS) (w o v : Int32) : Int32 := ic (mb w v ∧ kn S w o) (vl V S w o) (-2)
noncomputable def N_set (S : gS) (w o v : Int32) : gS := ic (mb w v ∧ kn S w o) (y_set S w o v) S
noncomputable def A_ten (S : gS) (x y : Int32) : Int32 := ic (okT x y) (ic (gP S = 8) (-4) (nI (gP S))) (-2)
noncomputable def N_ten (S : gS) (x y : Int32) : gS := ic (okT x y) (ic (gP S = 8) S (y_come S x y)) S
noncomputable def A_give (S : gS) (o x : Int32) : Int32 := ic (isP S o ∧ (0 ≤ x ∧ x ≤ 5)) (ic (S 18 o.toNatClampNeg = -1) (ic (wI S x.toNatClampNeg = -1) x (-4)) (-3)) (-2)
noncomputable def N_give (S : gS) (o x : Int32) : gS := ic (isP S o ∧ (0 ≤ x ∧ x ≤ 5)) (ic (S 18 o.toNatClampNeg = -1) (ic (wI S x.toNatClampNeg = -1) (y_in S o.toNatClampNeg x.toNatClampNeg) S) S) S
noncomputable def A_off (S : gS) (o : Int32) : Int32 := ic (isP S o) (ic (S 18 o.toNatClampNeg = -5) (-3) (S 18 o.toNatClampNeg)) (-2)
noncomputable def N_off (S : gS) (o : Int32) : gS := ic (isP S o) (ic (S 18 o.toNatClampNeg = -5) S (upS S 18 o.toNatClampNeg (-5))) S
noncomputable def A_run (V : VT) (S : gS) (y x : Int32) : Int32 := ic ((0 ≤ y ∧ y ≤ 30) ∧ runT S x) (y_tell (y_ys V y.toNatClampNeg S) x) (-2)
noncomputable def A_takes (V : VT) (S : gS) (o : Int32) : Int32 := ic (isP S o) (y_tk V o.toNatClampNeg 30 0 S) (-2)
def okB (y x : Int32) : Prop := (0 ≤ y ∧ y ≤ 30) ∧ (0 ≤ x ∧ x ≤ 1)
noncomputable def A_strict (V : VT) (S : gS) (y x : Int32) : Int32 := ic (okB y x) (ansB (bf (c_strict V y.toNatClampNeg S) 100 0 (-1, -1)) x) (-2)
noncomputable def A_turn (V : VT) (S : gS) (w y x : Int32) : Int32 := ic ((0 ≤ w ∧ w ≤ 5) ∧ (0 ≤ y ∧ y ≤ 30) ∧ (0 ≤ x ∧ x ≤ 1)) (ic (wI S w.toNatClampNeg = -1) (ansB (bf (c_turn V y.toNatClampNeg w.toNatClampNeg S) (gP S) 0 (-1, if g_cnt (S 18) (-1) (gP S) 0 0 ≤ 0 then y_well (y_ys V y.toNatClampNeg S) else -1)) x) (-3)) (-2)
noncomputable def A_drain (V : VT) (S : gS) (y x : Int32) : Int32 := ic (okB y x) (ansB (bf (c_drain V y.toNatClampNeg S) 6 0 (-1, y_well (y_ys V y.toNatClampNeg S))) x) (-2)
noncomputable def A_strike (V : VT) (S : gS) (y x : Int32) : Int32 := ic (okB y x) (ansB (bf (c_strike V y.toNatClampNeg S) (gP S) 0 (-1, y_well (y_ys V y.toNatClampNeg S))) x) (-2)
noncomputable def A_chg (V : VT) (S : gS) (y x : Int32) : Int32 := ic (okB y x) (ansB (c_chg2 V y.toNatClampNeg S (gP S) 0 (-1, y_well (y_ys V y.toNatClampNeg S))) x) (-2)
noncomputable def A_feed (zz : Nat) (l : Int32) : Int32 := ic (0 ≤ l ∧ l ≤ 255) (ic (zz = 160) (-4) (nI (zz + 1))) (-2)
noncomputable def N_fz (zz : Nat) (l : Int32) : Nat := ic (0 ≤ l ∧ l ≤ 255) (ic (zz = 160) zz (zz + 1)) zz
noncomputable def N_ff (zz : Nat) (f : Nat → Int32) (l : Int32) : Nat → Int32 := ic (0 ≤ l ∧ l ≤ 255) (ic (zz = 160) f (fu f zz l)) f
noncomputable def A_force (n : Nat) (S : gS) (x : Int32) : Int32 := ic (0 ≤ x ∧ x ≤ nI n - 1) (S 2 5) (-2)
noncomputable def N_force (n : Nat) (S : gS) (x : Int32) : gS := ic (0 ≤ x ∧ x ≤ nI n - 1) (upS S 2 5 x) S
def y_gone (S : gS) : Int32 := g_cnt (S 18) (-5) (gP S) 0 0
def y_wts (S : gS) : Int32 := g_cnt (S 18) (-1) (gP S) 0 0
noncomputable def A_year (V : VT) (S : gS) : Int32 := ic (S 2 2 < 999) (y_gone (y_year V S)) (-3)
noncomputable def N_year (V : VT) (S : gS) : gS := ic (S 2 2 < 999) (y_year V S) S
def A_back (K : Option gS) : Int32 := match K with
  | none => -3
  | some S2 => nI (gP S2)
def N_back (S : gS) (K : Option gS) : gS := match K with
  | none => S
  | some S2 => S2
def A_count (n : Nat) (S : gS) (zz : Nat) (w : Int32) : Int32 := if w = 0 then nI (gP S) else if w = 1 then nI (gP S) - y_wts S - y_gone S else if w = 2 then y_wts S else if w = 3 then y_gone S else if w = 4 then S 2 2 else if w = 5 then nI n else if w = 6 then nI zz else if w = 7 then S 2 5 else -2
theorem isP_c {S : gS} {n : Nat} {o : Int32} (hg : gw S n) (h : isP S o) : o.toNatClampNeg < gP S ∧ o = nI o.toNatClampNeg := by
  obtain ⟨p, hp, rfl⟩ := isP_n hg h
  have := hg.1
  rw [nI_c (by omega)]
  exact ⟨hp, rfl⟩
theorem yr_up {S : gS} {a k : Nat} {v : Int32} (h : a ≠ 2 ∨ k ≠ 2) (hy : yr S) : yr (upS S a k v) := by
  unfold yr upS
  rw [if_neg (by omega)]; exact hy
theorem yr_in {S : gS} {p s : Nat} (hy : yr S) : yr (y_in S p s) := yr_up (Or.inl (by decide)) (yr_up (Or.inl (by decide)) (yr_up (Or.inl (by decide)) hy))
theorem yr_come {S : gS} {x y : Int32} (hy : yr S) : yr (y_come S x y) := yr_up (Or.inr (by decide)) (yr_up (Or.inl (by decide)) (yr_up (Or.inl (by decide)) (yr_up (Or.inl (by decide)) (yr_up (Or.inl (by decide)) hy))))
theorem i_rng {x a b : Int32} {A B : Int} (ha : a.toInt = A) (hb : b.toInt = B) (h : a ≤ x ∧ x ≤ b) : A ≤ x.toInt ∧ x.toInt ≤ B := by
  rw [i_le, i_le, ha, hb] at h; exact h
theorem gwr_come {S : gS} {n : Nat} {x y : Int32} (hw : gw S n) (hr : gr S) (ht : okT x y) (h8 : gP S < 8) : gw (y_come S x y) n ∧ gr (y_come S x y) := by
  have hx := i_rng (a := 0) (b := 5) (A := 0) (B := 5) (by decide) (by decide) ht.1
  have hy := i_rng (a := 0) (b := 9) (A := 0) (B := 9) (by decide) (by decide) ht.2
  have e5 : (-1 : Int32).toInt = -1 := by decide
  constructor
  · have eP : (y_come S x y) 2 6 = nI (gP S + 1) := by unfold y_come; exact upS_eq
    have eR : (y_come S x y) 2 5 = S 2 5 := by
      unfold y_come
      simp [upS]
    have gPe : gP (y_come S x y) = gP S + 1 := by unfold gP at *; rw [eP, nI_c (by omega)]
    have gRe : gR (y_come S x y) = gR S := by unfold gR; rw [eR]
    have epl : ∀ p, (y_come S x y) 18 p = if p = gP S then -1 else S 18 p := by
      intro p
      unfold y_come
      by_cases e : p = gP S <;> simp [upS, e]
    refine ⟨by omega, by rw [eP, gPe], by rw [gRe]; exact hw.2.2.1, by rw [gRe, eR]; exact hw.2.2.2.1, fun p hp => ?_⟩
    rw [epl]
    by_cases e : p = gP S
    · rw [if_pos e]; exact Or.inr (Or.inl rfl)
    · rw [if_neg e]; exact hw.2.2.2.2 p (by omega)
  · unfold y_come
    refine gr_up (gr_up (gr_up (gr_up (gr_up hr ?_) ?_) ?_) ?_) ?_
    · rw [(hi_16 h8).1, (hi_16 h8).2]; exact hx
    · rw [(hi_17 h8).1, (hi_17 h8).2]; exact hy
    · rw [(hi_18 h8).1, (hi_18 h8).2, e5]; omega
    · rw [(hi_21 h8).1, (hi_21 h8).2, i_0]; omega
    · rw [hi_2.2.2.2.2.2.2.2.2.1, hi_2.2.2.2.2.2.2.2.2.2, nI_toInt (by omega)]; omega
theorem gwr_set {S : gS} {n : Nat} {w o v : Int32} (hw : gw S n) (hr : gr S) (hm : mb w v) (hk : kn S w o) (hy : yr S) : gw (y_set S w o v) n ∧ gr (y_set S w o v) ∧ yr (y_set S w o v) := by
  have h8 := hw.1
  have gw2 : ∀ k v, k ≠ 6 → k ≠ 5 → gw (upS S 2 k v) n := fun k v k6 k5 => gw_of (by unfold upS; rw [if_neg (by omega)]) (by unfold upS; rw [if_neg (by omega)]) (fun p _ => Or.inl (by rw [upS_ne (by decide)])) hw
  have t0 : (0 : Int32).toInt = 0 := by decide
  have t1 : (1 : Int32).toInt = 1 := by decide
  have t9 : (9 : Int32).toInt = 9 := by decide
  have t99 : (99 : Int32).toInt = 99 := by decide
  have t999 : (999 : Int32).toInt = 999 := by decide
  unfold mb at hm
  unfold kn at hk
  unfold y_set
  by_cases h0 : w = 0
  · rw [if_pos h0] at hm ⊢
    have hv := i_rng t0 t999 hm
    exact ⟨gw2 _ _ (by decide) (by decide), gr_up hr (by rw [hi_2.1, hi_2.2.1]; omega), by unfold yr; rw [upS_eq]; exact hv⟩
  rw [if_neg h0] at hm hk ⊢
  by_cases h1 : w = 1
  · rw [if_pos h1] at hm ⊢
    have hv := i_rng t0 t99 hm
    exact ⟨gw2 _ _ (by decide) (by decide), gr_up hr (by rw [hi_2.2.2.1, hi_2.2.2.2.1]; exact hv), yr_up (Or.inr (by decide)) hy⟩
  rw [if_neg h1] at hm hk ⊢
  by_cases h2 : w = 2
  · rw [if_pos h2] at hm ⊢
    have hv := i_rng t1 t9 hm
    exact ⟨gw2 _ _ (by decide) (by decide), gr_up hr (by rw [hi_2.2.2.2.2.1, hi_2.2.2.2.2.2.1]; exact hv), yr_up (Or.inr (by decide)) hy⟩
  rw [if_neg h2] at hm hk ⊢
  by_cases h3 : w = 3
  · rw [if_pos h3] at hm hk ⊢
    have hv := i_rng t0 t99 hm
    obtain ⟨k, hk6, rfl⟩ := st_n hk
    rw [nI_c (by omega)]
    exact ⟨gw_up hw (by decide) (by decide), gr_up hr (by rw [(hi_14 hk6).1, (hi_14 hk6).2]; exact hv), yr_up (Or.inl (by decide)) hy⟩
  rw [if_neg h3] at hm hk ⊢
  by_cases h4 : w = 4
  · rw [if_pos h4] at hm hk ⊢
    have hv := i_rng t0 t1 hm
    obtain ⟨k, hk6, rfl⟩ := st_n hk
    rw [nI_c (by omega)]
    exact ⟨gw_up hw (by decide) (by decide), gr_up hr (by rw [(hi_15 hk6).1, (hi_15 hk6).2]; exact hv), yr_up (Or.inl (by decide)) hy⟩
  rw [if_neg h4] at hm hk ⊢
  by_cases h5 : w = 5
  · rw [if_pos h5] at hm hk ⊢
    have hv := i_rng t0 t9 hm
    have hc := isP_c hw hk
    have hp8 : o.toNatClampNeg < 8 := by omega
    exact ⟨gw_up hw (by decide) (by decide), gr_up hr (by rw [(hi_17 hp8).1, (hi_17 hp8).2]; exact hv), yr_up (Or.inl (by decide)) hy⟩
  rw [if_neg h5] at hm hk ⊢
  by_cases h6 : w = 6
  · rw [if_pos h6] at hm hk ⊢
    have hv := i_rng t0 t999 hm
    have hc := isP_c hw hk.1
    have hp8 : o.toNatClampNeg < 8 := by omega
    exact ⟨gw_up hw (by decide) (by decide), gr_up hr (by rw [(hi_19 hp8).1, (hi_19 hp8).2]; exact hv), yr_up (Or.inl (by decide)) hy⟩
  rw [if_neg h6] at hm hk ⊢
  by_cases h7 : w = 7
  · rw [if_pos h7] at hm hk ⊢
    have hv := i_rng t0 t9 hm
    have hc := isP_c hw hk.1
    have hp8 : o.toNatClampNeg < 8 := by omega
    exact ⟨gw_up hw (by decide) (by decide), gr_up hr (by rw [(hi_20 hp8).1, (hi_20 hp8).2]; exact hv), yr_up (Or.inl (by decide)) hy⟩
  rw [if_neg h7] at hm hk ⊢
  by_cases h8' : w = 8
  · rw [if_pos h8'] at hm hk
    have hv := i_rng t0 t999 hm
    have hc := isP_c hw hk.1
    have hp8 : o.toNatClampNeg < 8 := by omega
    exact ⟨gw_up hw (by decide) (by decide), gr_up hr (by rw [(hi_21 hp8).1, (hi_21 hp8).2]; exact hv), yr_up (Or.inl (by decide)) hy⟩
  rw [if_neg h8'] at hm
  exact absurd hm id
section CD
variable {sc : si_Sc} {d : Nat} {μ : si_Mm} {Q : si_Po} {n : Nat} {V : VT} {S : gS} {K : Option gS} {R : shT} {zz : Nat} {f : Nat → Int32} {w o v x y : Int32}
theorem cc_set (h : CI μ n V S K R zz f) (hq : ∀ μ', cf μ μ' → CI μ' n V (N_set S w o v) K R zz f → Q (some (.inl (A_set V S w o v))) μ') : si_W sc (d + 4) 80 0 [some (.inr (.inr (6, 0))), some (.inl w), some (.inl o), some (.inl v), none] [] μ Q := by
  have h0 := h
  obtain ⟨e, h1, h2, h3⟩ := h
  unfold A_set N_set at hq
  refine p_set h1 (fun hn => ?_) (fun hm hk μ' μ2 hx m2 => ?_)
  · rw [ic_f hn, ic_f hn] at hq; exact hq μ cf.rf h0
  · have hc : mb w v ∧ kn S w o := ⟨hm, hk⟩
    rw [ic_t hc, ic_t hc] at hq
    obtain ⟨g1, g2, g3⟩ := gwr_set h1.2.2.1 h1.2.2.2.1 hm hk h0.yr
    rw [← h2]
    exact hq μ2 (hx.cf.tr m2.cf) ((h0.sx hx).m0 m2 g1 g2 g3)
theorem cc_tenant (h : CI μ n V S K R zz f) (hq : ∀ μ', cf μ μ' → CI μ' n V (N_ten S x y) K R zz f → Q (some (.inl (A_ten S x y))) μ') : si_W sc (d + 1) 81 0 [some (.inr (.inr (6, 0))), some (.inl x), some (.inl y)] [] μ Q := by
  have h0 := h
  obtain ⟨e, h1, h2, h3⟩ := h
  unfold A_ten N_ten at hq
  refine p_tenant h1 (fun hn => ?_) (fun hx hy h8 => ?_) (fun hx hy h8 μ' m' => ?_)
  · have hn' : ¬ okT x y := hn
    rw [ic_f hn', ic_f hn'] at hq; exact hq μ cf.rf h0
  · have hc : okT x y := ⟨hx, hy⟩
    rw [ic_t hc, ic_t hc, ic_t h8, ic_t h8] at hq; exact hq μ cf.rf h0
  · have hc : okT x y := ⟨hx, hy⟩
    have h8' : ¬ gP S = 8 := by omega
    rw [ic_t hc, ic_t hc, ic_f h8', ic_f h8'] at hq
    obtain ⟨g1, g2⟩ := gwr_come h1.2.2.1 h1.2.2.2.1 ⟨hx, hy⟩ h8
    exact hq μ' m'.cf (h0.m0 m' g1 g2 (yr_come h0.yr))
theorem cc_told (h : CI μ n V S K R zz f) (hq : ∀ μ', cf μ μ' → CI μ' n V S K R zz f → Q (some (.inl (a_told V S o w))) μ') : si_W sc (d + 4) 82 0 [some (.inr (.inr (6, 0))), some (.inl o), some (.inl w)] [] μ Q := by
  have h0 := h
  obtain ⟨e, h1, h2, h3⟩ := h
  refine p_told h1 fun μ' hx => ?_
  rw [← h2]; exact hq μ' hx.cf (h0.sx hx)
theorem cc_give (h : CI μ n V S K R zz f) (hq : ∀ μ', cf μ μ' → CI μ' n V (N_give S o x) K R zz f → Q (some (.inl (A_give S o x))) μ') : si_W sc (d + 2) 83 0 [some (.inr (.inr (6, 0))), some (.inl o), some (.inl x)] [] μ Q := by
  have h0 := h
  obtain ⟨e, h1, h2, h3⟩ := h
  unfold A_give N_give at hq
  refine p_give h1 (fun hn => ?_) (fun hp hs hn => ?_) (fun hp hs hw hn => ?_) (fun hp hs hw hn μ' m' => ?_)
  · rw [ic_f hn, ic_f hn] at hq; exact hq μ cf.rf h0
  · have hc0 : isP S o ∧ (0 ≤ x ∧ x ≤ 5) := ⟨hp, hs⟩
    rw [ic_t hc0, ic_t hc0, ic_f hn, ic_f hn] at hq; exact hq μ cf.rf h0
  · have hc0 : isP S o ∧ (0 ≤ x ∧ x ≤ 5) := ⟨hp, hs⟩
    rw [ic_t hc0, ic_t hc0, ic_t hw, ic_t hw, ic_f hn, ic_f hn] at hq; exact hq μ cf.rf h0
  · have hc0 : isP S o ∧ (0 ≤ x ∧ x ≤ 5) := ⟨hp, hs⟩
    rw [ic_t hc0, ic_t hc0, ic_t hw, ic_t hw, ic_t hn, ic_t hn] at hq
    have hc := isP_c h1.2.2.1 hp
    have h8 := h1.2.2.1.1
    obtain ⟨s, hs6, rfl⟩ := st_n hs
    rw [nI_c (by omega)] at m' hq
    exact hq μ' m'.cf (h0.m0 m' (gw_in hs6 h1.2.2.1) (gr_in (by omega) hs6 h1.2.2.2.1) (yr_in h0.yr))
theorem cc_off (h : CI μ n V S K R zz f) (hq : ∀ μ', cf μ μ' → CI μ' n V (N_off S o) K R zz f → Q (some (.inl (A_off S o))) μ') : si_W sc (d + 1) 84 0 [some (.inr (.inr (6, 0))), some (.inl o), none] [] μ Q := by
  have h0 := h
  obtain ⟨e, h1, h2, h3⟩ := h
  unfold A_off N_off at hq
  refine p_strikeOff h1 (fun hn => ?_) (fun hp hs => ?_) (fun hp hs μ' m' => ?_)
  · rw [ic_f hn, ic_f hn] at hq; exact hq μ cf.rf h0
  · rw [ic_t hp, ic_t hp, ic_t hs, ic_t hs] at hq; exact hq μ cf.rf h0
  · rw [ic_t hp, ic_t hp, ic_f hs, ic_f hs] at hq
    have hc := isP_c h1.2.2.1 hp
    have h8 := h1.2.2.1.1
    have hp8 : o.toNatClampNeg < 8 := by omega
    have e5 : (-5 : Int32).toInt = -5 := by decide
    exact hq μ' m'.cf (h0.m0 m' (gw_pl h1.2.2.1 (Or.inl rfl)) (gr_up h1.2.2.2.1 (by rw [(hi_18 hp8).1, (hi_18 hp8).2, e5]; omega)) (yr_up (Or.inl (by decide)) h0.yr))
theorem cc_list (h : CI μ n V S K R zz f) (hq : ∀ μ', cf μ μ' → CI μ' n V S K R zz f → Q (some (.inl (y_ls S x (gP S) 0))) μ') : si_W sc (d + 3) 85 0 [some (.inr (.inr (6, 0))), some (.inl x)] [] μ Q := p_list h.choose_spec.1 (hq μ cf.rf h)
theorem tN (N : Nat) (h : N ≤ 30) : (nI N).toNatClampNeg = N := nI_c (by omega)
theorem cc_run (h : CI μ n V S K R zz f) (hq : ∀ μ', cf μ μ' → CI μ' n V S K R zz f → Q (some (.inl (A_run V S y x))) μ') : si_W sc (d + 7) 94 0 [some (.inr (.inr (6, 0))), some (.inl y), some (.inl x), none] [] μ Q := by
  have h0 := h
  obtain ⟨e, h1, h2, h3⟩ := h
  unfold A_run at hq
  refine p_run h1 (fun hn => ?_) (fun N hN hy hx μ' s' => ?_)
  · rw [ic_f hn] at hq; exact hq μ cf.rf h0
  · subst hy
    have hb : (0 ≤ nI N ∧ nI N ≤ 30) := ⟨nI_pos' (by omega), nI_le (b := 30) hN (by decide)⟩
    have hc : (0 ≤ nI N ∧ nI N ≤ 30) ∧ runT S x := ⟨hb, hx⟩
    rw [ic_t hc, tN N hN] at hq
    rw [← h2]; exact hq μ' s'.cf (h0.sx s')
theorem cc_takes (h : CI μ n V S K R zz f) (hq : ∀ μ', cf μ μ' → CI μ' n V S K R zz f → Q (some (.inl (A_takes V S o))) μ') : si_W sc (d + 5) 95 0 [some (.inr (.inr (6, 0))), some (.inl o), none] [] μ Q := by
  have h0 := h
  obtain ⟨e, h1, h2, h3⟩ := h
  have h8 := h1.2.2.1.1
  unfold A_takes at hq
  refine p_takes h1 (fun hn => ?_) (fun p hp ho μ' s' => ?_)
  · rw [ic_f hn] at hq; exact hq μ cf.rf h0
  · subst ho
    have hc : isP S (nI p) := ⟨nI_pos' (by omega), (nI_lt8 (by omega) (by omega)).mpr hp⟩
    have cp : (nI p).toNatClampNeg = p := nI_c (by omega)
    rw [ic_t hc, cp] at hq
    rw [← h2]; exact hq μ' s'.cf (h0.sx s')
theorem nB (N : Nat) (h : N ≤ 30) : (0 ≤ nI N ∧ nI N ≤ 30) := ⟨nI_pos' (by omega), nI_le (b := 30) h (by decide)⟩
theorem cc_strict (h : CI μ n V S K R zz f) (hq : ∀ μ', cf μ μ' → CI μ' n V S K R zz f → Q (some (.inl (A_strict V S y x))) μ') : si_W sc (d + 6) 97 0 [some (.inr (.inr (6, 0))), some (.inl y), some (.inl x), none] [] μ Q := by
  have h0 := h
  obtain ⟨e, h1, h2, h3⟩ := h
  unfold A_strict at hq
  refine p_strict h1 (fun hn => ?_) (fun N hN hy hx μ' s' => ?_)
  · have hn' : ¬ okB y x := hn
    rw [ic_f hn'] at hq; exact hq μ cf.rf h0
  · subst hy
    have hc : okB (nI N) x := ⟨nB N hN, hx⟩
    rw [ic_t hc, tN N hN] at hq
    rw [← h2]; exact hq μ' s'.cf (h0.sx s')
theorem cc_turn (h : CI μ n V S K R zz f) (hq : ∀ μ', cf μ μ' → CI μ' n V S K R zz f → Q (some (.inl (A_turn V S w y x))) μ') : si_W sc (d + 7) 98 0 [some (.inr (.inr (6, 0))), some (.inl w), some (.inl y), some (.inl x), none] [] μ Q := by
  have h0 := h
  obtain ⟨e, h1, h2, h3⟩ := h
  unfold A_turn at hq
  refine p_outOfTurn h1 (fun hn => ?_) (fun s hs hw hy hx hn => ?_) (fun s N hs hw hN hy hx hn μ' s' => ?_)
  · rw [ic_f hn] at hq; exact hq μ cf.rf h0
  · subst hw
    have hc : (0 ≤ nI s ∧ nI s ≤ 5) ∧ (0 ≤ y ∧ y ≤ 30) ∧ (0 ≤ x ∧ x ≤ 1) := ⟨⟨nI_pos' (by omega), nI_le (a := s) (b := 5) (by omega) (by decide)⟩, hy, hx⟩
    have cp : (nI s).toNatClampNeg = s := nI_c (by omega)
    rw [ic_t hc, cp, ic_f hn] at hq
    exact hq μ cf.rf h0
  · subst hw
    subst hy
    have hc : (0 ≤ nI s ∧ nI s ≤ 5) ∧ (0 ≤ nI N ∧ nI N ≤ 30) ∧ (0 ≤ x ∧ x ≤ 1) := ⟨⟨nI_pos' (by omega), nI_le (a := s) (b := 5) (by omega) (by decide)⟩, nB N hN, hx⟩
    have cp : (nI s).toNatClampNeg = s := nI_c (by omega)
    rw [ic_t hc, cp, ic_t hn, tN N hN] at hq
    rw [← h2]; exact hq μ' s'.cf (h0.sx s')
theorem cc_drain (h : CI μ n V S K R zz f) (hq : ∀ μ', cf μ μ' → CI μ' n V S K R zz f → Q (some (.inl (A_drain V S y x))) μ') : si_W sc (d + 7) 99 0 [some (.inr (.inr (6, 0))), some (.inl y), some (.inl x), none] [] μ Q := by
  have h0 := h
  obtain ⟨e, h1, h2, h3⟩ := h
  unfold A_drain at hq
  refine p_drain h1 (fun hn => ?_) (fun N hN hy hx μ' s' => ?_)
  · have hn' : ¬ okB y x := hn
    rw [ic_f hn'] at hq; exact hq μ cf.rf h0
  · subst hy
    have hc : okB (nI N) x := ⟨nB N hN, hx⟩
    rw [ic_t hc, tN N hN] at hq
    rw [← h2]; exact hq μ' s'.cf (h0.sx s')
theorem cc_strike (h : CI μ n V S K R zz f) (hq : ∀ μ', cf μ μ' → CI μ' n V S K R zz f → Q (some (.inl (A_strike V S y x))) μ') : si_W sc (d + 7) 100 0 [some (.inr (.inr (6, 0))), some (.inl y), some (.inl x), none] [] μ Q := by
  have h0 := h
  obtain ⟨e, h1, h2, h3⟩ := h
  unfold A_strike at hq
  refine p_strike h1 (fun hn => ?_) (fun N hN hy hx μ' s' => ?_)
  · have hn' : ¬ okB y x := hn
    rw [ic_f hn'] at hq; exact hq μ cf.rf h0
  · subst hy
    have hc : okB (nI N) x := ⟨nB N hN, hx⟩
    rw [ic_t hc, tN N hN] at hq
    rw [← h2]; exact hq μ' s'.cf (h0.sx s')
theorem cc_chg (h : CI μ n V S K R zz f) (hq : ∀ μ', cf μ μ' → CI μ' n V S K R zz f → Q (some (.inl (A_chg V S y x))) μ') : si_W sc (d + 7) 101 0 [some (.inr (.inr (6, 0))), some (.inl y), some (.inl x), none, none] [] μ Q := by
  have h0 := h
  obtain ⟨e, h1, h2, h3⟩ := h
  unfold A_chg at hq
  refine p_change h1 (fun hn => ?_) (fun N hN hy hx μ' s' => ?_)
  · have hn' : ¬ okB y x := hn
    rw [ic_f hn'] at hq; exact hq μ cf.rf h0
  · subst hy
    have hc : okB (nI N) x := ⟨nB N hN, hx⟩
    rw [ic_t hc, tN N hN] at hq
    rw [← h2]; exact hq μ' s'.cf (h0.sx s')
end CD
