/-! film, drawn, chance, the sheets' calls, tells -/
def okS (w so : Int32) : Prop := (0 ≤ w ∧ w ≤ 3) ∧ (-1 ≤ so ∧ so ≤ 2)
noncomputable def A_sheet (w so k : Int32) : Int32 := ic (okS w so) (ic (so = -1) 1 (ic (k ≤ 40) (ic (0 ≤ k) 1 (-14)) (-2))) (-2)
noncomputable def N_sheet (R : shT) (w so k : Int32) : shT := ic (okS w so) (ic (so = -1) (r_lay R w.toNatClampNeg (-1) 0) (ic (k ≤ 40) (ic (0 ≤ k) (r_lay R w.toNatClampNeg so k.toNatClampNeg) R) R)) R
def inS (R : shT) (t : Nat) (i : Int32) : Prop := 0 ≤ i ∧ i ≤ nI (R.2.1 t) - 1
noncomputable def A_cell (R : shT) (w i : Int32) : Int32 := ic (0 ≤ w ∧ w ≤ 3) (ic (R.1 w.toNatClampNeg = -1) (-11) (ic (inS R w.toNatClampNeg i) 1 (-12))) (-2)
noncomputable def N_cell (R : shT) (w i v : Int32) : shT := ic (0 ≤ w ∧ w ≤ 3) (ic (R.1 w.toNatClampNeg = -1) R (ic (inS R w.toNatClampNeg i) (r_put R w.toNatClampNeg i.toNatClampNeg v) R)) R
def okY (w o : Int32) : Prop := (0 ≤ w ∧ w ≤ 3) ∧ (0 ≤ o ∧ o ≤ 3)
def inY (R : shT) (w i o j k : Int32) : Prop := hold (R.2.1 w.toNatClampNeg) i k ∧ hold (R.2.1 o.toNatClampNeg) j k
noncomputable def A_copy (R : shT) (w i o j k : Int32) : Int32 := ic (okY w o) (ic (R.1 w.toNatClampNeg = -1 ∨ R.1 o.toNatClampNeg = -1) (-11) (ic (R.1 w.toNatClampNeg = R.1 o.toNatClampNeg) (ic (inY R w i o j k) k (-12)) (-13))) (-2)
noncomputable def N_copy (R : shT) (w i o j k : Int32) : shT := ic (okY w o) (ic (R.1 w.toNatClampNeg = -1 ∨ R.1 o.toNatClampNeg = -1) R (ic (R.1 w.toNatClampNeg = R.1 o.toNatClampNeg) (ic (inY R w i o j k) (r_copy R w.toNatClampNeg i.toNatClampNeg o.toNatClampNeg j.toNatClampNeg k.toNatClampNeg) R) R)) R
noncomputable def y_tns (R : shT) (t : Nat) (a : Int32) : Nat → Nat → Nat → gS → Int32 × gS
  | 0, _, c, S => (nI c, S)
  | m + 1, k, c, S => ic (0 ≤ a ∧ a < nI (R.2.1 t) - 1 - 2 * nI k) (y_tns R t a m (k + 1) (if A_ten S (R.2.2 t (a.toNatClampNeg + 2 * k)) (R.2.2 t (a.toNatClampNeg + 2 * k + 1)) < 0 then c else c + 1) (N_ten S (R.2.2 t (a.toNatClampNeg + 2 * k)) (R.2.2 t (a.toNatClampNeg + 2 * k + 1)))) (-12, S)
def okN (w so k : Int32) : Prop := (0 ≤ w ∧ w ≤ 3) ∧ (0 ≤ so ∧ so ≤ 2) ∧ (0 ≤ k ∧ k ≤ 8)
noncomputable def y_tn (R : shT) (S : gS) (w so a k : Int32) : Int32 × gS := ic (okN w so k) (ic (R.1 w.toNatClampNeg = -1) (-11, S) (ic (R.1 w.toNatClampNeg = so) (y_tns R w.toNatClampNeg a k.toNatClampNeg 0 0 S) (-13, S))) (-2, S)
def uk (k : Int32) : Nat → Int32 → Prop
  | 0, _ => False
  | m + 1, a => if 0 ≤ a ∧ a ≤ 5 then (if a = k then True else uk k m (si_under a.toNatClampNeg)) else False
noncomputable def A_taken (S : gS) (o k : Int32) : Int32 := ic (0 ≤ k ∧ k ≤ 5) (ic (isP S o) (ic (uk k 6 (S 16 o.toNatClampNeg)) (S 17 o.toNatClampNeg) (-13)) (-11)) (-2)
/-- the first year that is told otherwise -/
noncomputable def y_fo (V : VT) (R : shT) (t s : Nat) : Nat → Nat → gS → Int32
  | 0, _, _ => -1
  | m + 1, k, S => if (y_year V S) 14 s = R.2.2 t k then y_fo V R t s m (k + 1) (y_year V S) else nI k
def s_n (n : Nat) (S : gS) (w : Int32) (s : Nat) : Nat := if w = 1 then n else if w = 2 then 100 else if w = 3 then 100 else match who S s with
  | none => 0
  | some _ => if w = 4 then 6 else 10
def s_s (S : gS) (w : Int32) (s c : Nat) : gS := if w = 1 then upS S 2 5 (nI c) else if w = 2 then upS S 14 s (nI c) else if w = 3 then upS S 14 s (nI c) else match who S s with
  | none => S
  | some p => if w = 4 then upS S 16 p (nI c) else upS S 17 p (nI c)
noncomputable def y_wf (ok : Nat → Prop) : Nat → Nat → Int32 × Int32 × Int32 → Int32 × Int32 × Int32
  | 0, _, q => q
  | m + 1, c, q => y_wf ok m (c + 1) (ic (ok c) (q.1 + 1, (if q.2.1 = -1 then nI c else q.2.1), q.2.2 ||| (1 <<< (nI c &&& 31))) q)
def pick (w : Int32) (q : Int32 × Int32 × Int32) : Int32 := if w = 2 then q.1 else if w = 3 then q.2.1 else q.2.2
def okL (w x y : Int32) : Prop := (0 ≤ w ∧ w ≤ 3) ∧ (0 ≤ x ∧ x ≤ 5) ∧ (0 ≤ y ∧ y ≤ 5)
def s_ok (V : VT) (R : shT) (S : gS) (t s : Nat) (w : Int32) (c : Nat) : Prop := y_fo V R t s (R.2.1 t) 0 (s_s S w s c) = -1
noncomputable def A_tells (V : VT) (n : Nat) (S : gS) (R : shT) (w x y : Int32) : Int32 := ic (okL w x y) (ic (R.1 w.toNatClampNeg = -1) (-11) (ic (nI (R.2.1 w.toNatClampNeg) ≤ 30) (ic (y = 0) (y_fo V R w.toNatClampNeg x.toNatClampNeg (R.2.1 w.toNatClampNeg) 0 S) (pick y (y_wf (s_ok V R S w.toNatClampNeg x.toNatClampNeg y) (s_n n S y x.toNatClampNeg) 0 (0, -1, 0)))) (-2))) (-2)
theorem r_put_sz {R : shT} {t i : Nat} {v : Int32} : (r_put R t i v).2.1 = R.2.1 ∧ (r_put R t i v).1 = R.1 := ⟨rfl, rfl⟩
section CF
variable {sc : si_Sc} {d : Nat} {μ : si_Mm} {Q : si_Po} {n : Nat} {V : VT} {S : gS} {K : Option gS} {R : shT} {zz : Nat} {f : Nat → Int32} {w o v x y : Int32}
theorem cc_film (h : CI μ n V S K R zz f) (hq : ∀ μ', cf μ μ' → CI μ' n V S K (N_film V S R w x y) zz f → Q (some (.inl (A_film w x y))) μ') : si_W sc (d + 5) 108 0 [some (.inr (.inr (6, 0))), some (.inl w), some (.inl x), some (.inl y), none] [] μ Q := by
  have bad : ¬ okF w x y → Q (some (.inl (-2))) μ := fun hn => by
    have q := hq μ cf.rf
    unfold A_film N_film at q
    rw [ic_f hn, ic_f hn] at q; exact q h
  refine k_X6_film_0 (p_isSheet (k_X6_film_4 ⟨fun hz => bad (fun a => bi_0.mp hz a.1), fun hz => p_isStrip (k_X6_film_11 ⟨fun hy => bad (fun a => bi_0.mp hy a.2.1), fun hy => p_isSpan (k_X6_film_18 ⟨fun hx => ?_, fun hx => bad (fun a => bi_0.mp hx a.2.2)⟩)⟩)⟩))
  have hok : okF w x y := ⟨bi_n hz, bi_n hy, bi_n hx⟩
  unfold A_film N_film at hq
  rw [ic_t hok, ic_t hok] at hq
  obtain ⟨t, ht, rfl⟩ := sh_n hok.1
  obtain ⟨s, hs, rfl⟩ := st_n hok.2.1
  obtain ⟨N, hN, rfl⟩ := sp_n hok.2.2
  rw [nI_c (by omega), nI_c (by omega), nI_c (by omega)] at hq
  have cs : (nI s).toNatClampNeg = s := nI_c (by omega)
  refine p_lay h.CR ht (by omega) fun μ1 f1 R1 => k_X6_film_34 ?_
  have C1 := h.r4 f1 R1
  have g1 := C1.choose_spec.1
  refine p_bec g1 fun μ2 m2 => k_X6_film_45 ?_
  have lp : ∀ (m k : Nat) (S1 : gS) (R1 : shT) (μ1 μ2 : si_Mm), k + m = N → CI μ1 n V S K R1 zz f → mr 1 μ1 μ2 S1 → gw S1 n → gr S1 → R1.2.1 t = N → cf μ μ1 → (∀ μ', cf μ μ' → CI μ' n V S K (y_film V t s m k S1 R1) zz f → Q (some (.inl (nI N))) μ') → si_W sc (d + 5) 108 48 [some (.inr (.inr (6, 0))), some (.inl (nI t)), some (.inl (nI s)), some (.inl (nI N)), some (.inl (nI k))] [] μ2 Q := by
    intro m
    induction m with
    | zero =>
      intro k S1 R1 μ1 μ2 hk C1 m2 w1 r1 hz1 f1 hq
      have x2 := sx.m1 m2 r1
      refine k_X6_film_48 ⟨fun _ => hq μ2 (f1.tr x2.cf) (C1.sx x2), fun hn => absurd ?_ hn⟩
      rw [nI_le8 (by omega) (by omega)]; omega
    | succ m ih =>
      intro k S1 R1 μ1 μ2 hk C1 m2 w1 r1 hz1 f1 hq
      have x2 := sx.m1 m2 r1
      have C2 := C1.sx x2
      have g2 := C2.choose_spec.1
      have gV2 := C2.choose_spec.2.1
      refine k_X6_film_48 ⟨fun hn => ?_, fun _ => p_passYear g2.1 (by rw [m2.1]; exact w1) fun μ3 m3 => k_X6_film_61 ⟨vp_in_nI hs (by omega), ?_⟩⟩
      · rw [nI_le8 (by omega) (by omega)] at hn; omega
      · rw [m2.1, ← gV2] at m3
        have w3 : gw (y_year V S1) n := gw_year w1
        have r3 : gr (y_year V S1) := gr_year h.vr w1 r1
        have x3 := sx.m1 m3 r3
        have C3 := C2.sx x3
        have e14 : μ3.1 14 1 = (y_year V S1) 14 := by rw [← m3.1, vw_at (by decide)]
        rw [cs, e14]
        refine p_put C3.CR ht (by omega) fun μ4 f4 R4 => k_X6_film_80 ?_
        rw [nI_1]
        rw [y_film] at hq
        have C4 := C3.r4 f4 R4
        refine ih (k + 1) (y_year V S1) _ μ4 μ4 (by omega) C4 ?_ w3 r3 hz1 (((f1.tr x2.cf).tr x3.cf).tr f4.cf) hq
        have e4 : vw μ4 1 = y_year V S1 := (fr4_vw f4).trans m3.1
        rw [← e4]
        exact mr.rf
  exact lp N 0 S _ μ1 μ2 (by omega) C1 m2 h.gw h.gr (by show fu R.2.1 t N t = N; exact fu_eq) f1.cf hq
set_option maxHeartbeats 1000000 in
theorem p_wellDrawn {N : Nat} (hN : N ≤ 1000) (h : CI μ n V S K R zz f) (hq : ∀ μ', sx μ μ' → Q (some (.inl (y_wd V S x N))) μ') : si_W sc (d + 5) 109 0 [some (.inr (.inr (6, 0))), some (.inl x), some (.inl (nI N)), none, none, none] [] μ Q := by
  have h0 := h
  obtain ⟨e, h1, h2, h3, h4, h5, h6, h7⟩ := h
  refine k_X6_wellDrawn_0 (p_bec h1 fun μ1 m1 => k_X6_wellDrawn_13 ?_)
  have lp1 : ∀ (c : Nat), c ≤ 1000 → ∀ (m k : Nat) (q : Int32) (S1 : gS) (μ1 : si_Mm), k + m = 6 → mr 1 μ μ1 S1 → gw S1 n → gr S1 → (∀ μ' : si_Mm, mr 1 μ μ' (y_year V (y_dr1 m k q S1).2) → si_W sc (d + 5) 109 16 [some (.inr (.inr (6, 0))), some (.inl x), some (.inl (nI N)), some (.inl (y_dr1 m k q S1).1), some (.inl (nI (c + 1))), some (.inl (nI 6))] [] μ' Q) → si_W sc (d + 5) 109 25 [some (.inr (.inr (6, 0))), some (.inl x), some (.inl (nI N)), some (.inl q), some (.inl (nI c)), some (.inl (nI k))] [] μ1 Q := by
    intro c hc m
    induction m with
    | zero =>
      intro k q S1 μ1 hk m1 w1 r1 hq
      have ek : k = 6 := by omega
      refine k_X6_wellDrawn_25 ⟨fun _ => p_passYear (m1.bk h1.1) (by rw [m1.1]; exact w1) fun μ2 m2 => k_X6_wellDrawn_71 ?_, fun hn => absurd ((n6 (by omega)).mpr (by omega)) hn⟩
      rw [m1.1, m1.cd, ← h2] at m2
      rw [nI_1, ek]
      exact hq μ2 (m1.tr m2)
    | succ m ih =>
      intro k q S1 μ1 hk m1 w1 r1 hq
      refine k_X6_wellDrawn_25 ⟨fun hn => absurd ((n6 (by omega)).mp hn) (by omega), fun _ => ⟨by decide, p_wither (by omega) (k_X6_wellDrawn_58 ?_)⟩⟩
      have m2 := m1.tr (mr.ms (g := 1) (a := 14) (k := k) (μ := μ1) (v := mx0 (μ1.1 14 1 k - dr_l (dr_z q))) (by decide))
      rw [m1.1] at m2
      have e14 : μ1.1 14 1 k = S1 14 k := by rw [← m1.1, vw_at (by decide)]
      rw [e14] at m2
      have g2 := gwr_dr (q := dr_z q) w1 r1 (show k < 6 by omega)
      rw [nI_1]
      have e15 : mx0 (μ1.1 14 1 k - dr_l (dr_z q)) = mx0 (S1 14 k - dr_l (dr_z q)) := by rw [e14]
      show si_W sc (d + 5) 109 25 [some (.inr (.inr (6, 0))), some (.inl x), some (.inl (nI N)), some (.inl (dr_z q)), some (.inl (nI c)), some (.inl (nI (k + 1)))] [] (si_ms μ1 14 1 k (mx0 (μ1.1 14 1 k - dr_l (dr_z q)))) Q
      rw [e15]
      exact ih (k + 1) (dr_z q) _ _ (by omega) m2 g2.1 g2.2 hq
  have lp2 : ∀ (m c : Nat) (q : Int32) (S1 : gS) (μ1 : si_Mm) (u5 : Option si_AV), c + m = N → mr 1 μ μ1 S1 → gw S1 n → gr S1 → (∀ μ', sx μ μ' → Q (some (.inl (y_well (y_drn V m q S1)))) μ') → si_W sc (d + 5) 109 16 [some (.inr (.inr (6, 0))), some (.inl x), some (.inl (nI N)), some (.inl q), some (.inl (nI c)), u5] [] μ1 Q := by
    intro m
    induction m with
    | zero =>
      intro c q S1 μ1 u5 hc m1 w1 r1 hq
      refine k_X6_wellDrawn_16 ⟨fun _ => p_tendedWell (k_X6_wellDrawn_84 ?_), fun hn => absurd ?_ hn⟩
      · rw [m1.1]; exact hq μ1 (sx.m1 m1 r1)
      · rw [nI_le8 (by omega) (by omega)]; omega
    | succ m ih =>
      intro c q S1 μ1 u5 hc m1 w1 r1 hq
      refine k_X6_wellDrawn_16 ⟨fun hn => ?_, fun _ => lp1 c (by omega) 6 0 q S1 μ1 (by omega) m1 w1 r1 fun μ2 m2 => ?_⟩
      · rw [nI_le8 (by omega) (by omega)] at hn; omega
      · have g2 := gwr_dr1 6 0 q S1 (by omega) w1 r1
        exact ih (c + 1) _ _ μ2 _ (by omega) m2 (gw_year g2.1) (gr_year h0.vr g2.1 g2.2) hq
  exact lp2 N 0 x S μ1 _ (by omega) m1 h0.gw h0.gr hq
theorem cc_drawn (h : CI μ n V S K R zz f) (hq : ∀ μ', cf μ μ' → CI μ' n V S K R zz f → Q (some (.inl (A_drawn V S x y))) μ') : si_W sc (d + 6) 110 0 [some (.inr (.inr (6, 0))), some (.inl x), some (.inl y)] [] μ Q := by
  unfold A_drawn at hq
  refine k_X6_drawn_0 (p_isSpan (k_X6_drawn_4 ⟨fun hz => ?_, fun hz => ?_⟩))
  · rw [ic_f (bi_0.mp hz)] at hq; exact hq μ cf.rf h
  · rw [ic_t (bi_n hz)] at hq
    obtain ⟨N, hN, rfl⟩ := sp_n (bi_n hz)
    rw [tN N hN] at hq
    exact p_wellDrawn (by omega) h fun μ' s' => k_X6_drawn_13 (hq μ' s'.cf (h.sx s'))
theorem p_shared {hh mm : Nat} (h1 : hh ≤ 1000) (h2 : mm ≤ 1000) (hq : Q (some (.inl (nI (sdN hh mm mm)))) μ) : si_W sc d 111 0 [some (.inl (nI hh)), some (.inl (nI mm)), none] [] μ Q := by
  have lp : ∀ (dd : Nat), dd ≤ 1000 → Q (some (.inl (nI (sdN hh mm dd)))) μ → si_W sc d 111 2 [some (.inl (nI hh)), some (.inl (nI mm)), some (.inl (nI dd))] [] μ Q := by
    have e1 : (1 : Int32) = nI 1 := rfl
    intro dd
    induction dd with
    | zero =>
      intro _ hq
      refine k_X6_sharedDivisor_2 ⟨fun _ => hq, fun hn => absurd ?_ hn⟩
      decide
    | succ dd ih =>
      intro hd hq
      unfold sdN at hq
      refine k_X6_sharedDivisor_2 ⟨fun hl => ?_, fun hl => ⟨nI_ne0 (by omega) (by omega), ?_⟩⟩
      · rw [e1, nI_le8 (by omega) (by omega)] at hl
        rw [if_pos (by omega)] at hq; exact hq
      · rw [e1, nI_le8 (by omega) (by omega)] at hl
        rw [if_neg (by omega)] at hq
        rw [pk_rem (by omega) (by omega) (by omega), pk_rem (by omega) (by omega) (by omega), nI_m1 (by omega)]
        have ed : dd + 1 - 1 = dd := by omega
        rw [ed]
        have z0 : ∀ q : Nat, q < 1000 → (nI q = 0 ↔ q = 0) := fun q hq => by
          have e0 : (0 : Int32) = nI 0 := rfl
          rw [e0, nI_eq (by omega) (by omega)]
        have l1 : hh % (dd + 1) < 1000 := Nat.lt_of_lt_of_le (Nat.mod_lt _ (by omega)) (by omega)
        have l2 : mm % (dd + 1) < 1000 := Nat.lt_of_lt_of_le (Nat.mod_lt _ (by omega)) (by omega)
        refine ⟨fun c1 => ?_, fun c1 => ⟨nI_ne0 (by omega) (by omega), fun c2 => ?_, fun c2 => ?_⟩⟩
        · rw [z0 _ l1] at c1
          rw [if_neg (fun q => c1 q.1)] at hq; exact ih (by omega) hq
        · rw [z0 _ l2] at c2
          rw [if_neg (fun q => c2 q.2)] at hq; exact ih (by omega) hq
        · rw [z0 _ l1] at c1
          rw [z0 _ l2] at c2
          rw [if_pos ⟨c1, c2⟩] at hq; exact hq
  exact k_X6_sharedDivisor_0 (lp mm h2 hq)
theorem cc_chance {p : Int32} (h : CI μ n V S K R zz f) (hq : ∀ μ', cf μ μ' → CI μ' n V S K R zz f → Q (some (.inr (.inl (A_chance V S x w y p)))) μ') : si_W sc (d + 6) 112 0 [some (.inr (.inr (6, 0))), some (.inl x), some (.inl w), some (.inl y), some (.inl p), none, none] [] μ Q := by
  unfold A_chance at hq
  have bad : ¬ okC w y p → Q (some (.inr (.inl (si_c64 0)))) μ := fun hn => by
    rw [ic_f hn] at hq; exact hq μ cf.rf h
  refine k_X6_chance_0 (p_isWithin (k_X6_chance_7 ⟨fun h1 => bad (fun a => bi_0.mp h1 a.1), fun h1 => p_isWithin (k_X6_chance_18 ⟨fun h2 => bad (fun a => bi_0.mp h2 a.2.1), fun h2 => p_isWithin (k_X6_chance_28 ⟨fun h3 => ?_, fun h3 => bad (fun a => bi_0.mp h3 a.2.2)⟩)⟩)⟩))
  have hok : okC w y p := ⟨bi_n h1, bi_n h2, bi_n h3⟩
  rw [ic_t hok] at hq
  have hw := rg_n (A := 20) (by decide) (by decide) hok.1
  have hw1 : 1 ≤ w.toNatClampNeg := by
    have := hw.2.2
    rw [i_1] at this; omega
  generalize hm : w.toNatClampNeg = mm at hq hw hw1
  rw [hw.2.1]
  have lp : ∀ (m i a : Nat) (μ1 : si_Mm), i + m = mm → a ≤ i → sx μ μ1 → (∀ μ', cf μ μ' → CI μ' n V S K R zz f → Q (some (.inr (.inl (c_frac (y_hits V S x y m i a) mm p)))) μ') → si_W sc (d + 6) 112 41 [some (.inr (.inr (6, 0))), some (.inl x), some (.inl (nI mm)), some (.inl y), some (.inl p), some (.inl (nI a)), some (.inl (nI i))] [] μ1 Q := by
    intro m
    induction m with
    | zero =>
      intro i a μ1 hi ha s1 hq
      refine k_X6_chance_41 ⟨fun _ => p_shared (by omega) (by omega) (k_X6_chance_76 ?_), fun hn => absurd ?_ hn⟩
      · have hp := sdN_pos a mm mm
        have q1 := hq μ1 s1.cf (h.sx s1)
        unfold c_frac y_hits at q1
        refine ⟨fun c => ⟨nI_ne0 (by omega) (by omega), ?_⟩, fun c => ⟨nI_ne0 (by omega) (by omega), ?_⟩⟩
        · rw [if_neg c] at q1
          rw [pk_div (by omega) (by omega) (by omega)]; exact q1
        · rw [if_pos c] at q1
          rw [pk_div (by omega) (by omega) (by omega)]; exact q1
      · rw [nI_le8 (by omega) (by omega)]; omega
    | succ m ih =>
      intro i a μ1 hi ha s1 hq
      refine k_X6_chance_41 ⟨fun hn => ?_, fun _ => p_wellDrawn (N := 10) (by omega) (h.sx s1) fun μ2 s2 => k_X6_chance_57 ⟨fun c => ?_, fun c => ?_⟩⟩
      · rw [nI_le8 (by omega) (by omega)] at hn; omega
      · rw [y_hits, if_pos c] at hq
        rw [nI_1]; exact ih (i + 1) a μ2 (by omega) (by omega) (s1.tr s2) hq
      · rw [y_hits, if_neg c] at hq
        rw [nI_1, nI_1]; exact ih (i + 1) (a + 1) μ2 (by omega) (by omega) (s1.tr s2) hq
  exact lp mm 0 0 μ (by omega) (by omega) (sx.rf h.choose_spec.1.2.2.2.2.1) hq
end CF
