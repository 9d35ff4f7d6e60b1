/-! the reference: outOfTurn, change -/
section RX6
variable {sc : si_Sc} {d : Nat} {μ μ' : si_Mm} {Q : si_Po} {n : Nat} {V : VT} {S S' : gS} {K : Option gS} {R : shT} {zz : Nat} {f : Nat → Int32} {w o v x y : Int32}
theorem rc_turn (h : RI μ n V S K R zz f) (hq : ∀ μ', rf μ μ' → RI μ' n V S K R zz f → Q (some (.inl (A_turn V S w y x))) μ') : si_W sc (d + 47) 214 0 [some (.inr (.inr (7, 0))), some (.inl w), some (.inl y), some (.inl x), none] [] μ Q := by
  unfold A_turn at hq
  have h8 := h.1.2.1.1
  have hbad : ¬ ((0 ≤ w ∧ w ≤ 5) ∧ (0 ≤ y ∧ y ≤ 30) ∧ (0 ≤ x ∧ x ≤ 1)) → Q (some (.inl (-2))) μ := fun c => by rw [ic_f c] at hq; exact hq μ rf.refl h
  refine k_X7_outOfTurn_0 (r_isStrip (k_X7_outOfTurn_4 ⟨fun c => hbad (fun a => bc_0 c a.1), fun c0 => r_in l0 c30_ (k_X7_outOfTurn_16 ⟨fun c => hbad (fun a => bc_0 c a.2.1), fun c => r_in l0 l1 (k_X7_outOfTurn_26 ⟨fun c2 => r_whose h.1.1 h.1.2.1 (k_X7_outOfTurn_37 ⟨fun c3 => ?_, fun c3 => ?_⟩), fun c2 => hbad (fun a => bc_0 c2 a.2.2)⟩)⟩)⟩))
  · have hok : (0 ≤ w ∧ w ≤ 5) ∧ (0 ≤ y ∧ y ≤ 30) ∧ (0 ≤ x ∧ x ≤ 1) := ⟨bc_n c0, bc_n c, bc_n c2⟩
    rw [ic_t hok] at hq
    obtain ⟨N, hN, rfl⟩ := sp_n (bc_n c)
    obtain ⟨s, hs, rfl⟩ := st_n (bc_n c0)
    have cs : (nI s).toNatClampNeg = s := nI_c (by omega)
    have c3' : wI S s = -1 := c3
    rw [tN N hN, cs, ic_t c3'] at hq
    have hc : ∀ p v, p < 8 → c_turn V N s S p = some v → ¬ v ≤ -1 := fun p v hp e => by
      unfold c_turn at e
      split at e
      · cases e
        exact well_1 (gr_ys h.1.2.2.2.2.2 N _ (gw_in hs h.1.2.1) (gr_in hp hs h.1.2.2.1))
      · cases e
    have lp : ∀ (m k : Nat) (q : Int32 × Int32) (μ1 : si_Mm), k + m = gP S → ft μ μ1 → (∀ k, k < 38 → μ1.1 37 0 k = μ.1 35 0 k) → BR μ1 q → ((bf (c_turn V N s S) m k q).1 ≠ -1 → ∀ μ', rf μ μ' → RI μ' n V S K R zz f → Q (some (.inl (ansB (bf (c_turn V N s S) m k q) x))) μ') → ((bf (c_turn V N s S) m k q).1 = -1 → ∀ μ', rf μ μ' → RI μ' n V S K R zz f → Q (some (.inl (ansB (-1, y_well (y_ys V N S)) x))) μ') → si_W sc (d + 47) 214 61 [some (.inr (.inr (7, 0))), some (.inl (nI s)), some (.inl (nI N)), some (.inl x), some (.inl (nI k))] [] μ1 Q := by
      intro m
      induction m with
      | zero =>
        intro k q μ1 hk hf kp hb h1 h2
        have hR := h.1.t hf
        rw [bf] at h1 h2
        refine k_X7_outOfTurn_61 ⟨fun _ => ⟨fun nx => ⟨fun ne => ?_, fun e => ?_⟩, fun e0 => ?_⟩, fun hn => absurd ?_ hn⟩
        · rw [hb.1] at ne
          exact (h.b hf hb x (h1 ne)).1 nx
        · rw [hb.1] at e
          refine r_wellBehind (by omega) hR fun μ2 f2 => k_X7_outOfTurn_131 ?_
          have z := h2 e μ2 (rf_of (hf.tr f2.t).o) (h.t (hf.tr f2.t))
          unfold ansB at z
          rw [if_neg nx] at z; exact z
        · by_cases e : q.1 = -1
          · have z := h2 e μ1 (rf_of hf.o) (h.t hf)
            unfold ansB at z
            rw [if_pos e0] at z
            rw [hb.1, e]; exact z
          · exact (h.b hf hb x (h1 e)).2 e0
        · rw [hR.1.P hR.2.1, nI_le8 (by omega) (by omega)]; omega
      | succ m ih =>
        intro k q μ1 hk hf kp hb h1 h2
        have hR := h.1.t hf
        have ck : (nI k).toNatClampNeg = k := nI_c (by omega)
        rw [bf] at h1 h2
        refine k_X7_outOfTurn_61 ⟨fun hn => ?_, fun _ => r_waits hR.1 hR.2.1 (k_X7_outOfTurn_76 ⟨fun c => k_X7_outOfTurn_101 ?_, fun c => r_puts (by omega) (k_X7_outOfTurn_86 ?_)⟩)⟩
        · rw [hR.1.P hR.2.1, nI_le8 (by omega) (by omega)] at hn; omega
        · have c' : ¬ S 18 k = -1 := fun z => bc_0 c ⟨isP_nI h8 (by omega), by rw [ck]; exact z⟩
          have ec : c_turn V N s S k = none := by unfold c_turn; rw [if_neg c']
          rw [ec] at h1 h2
          rw [nI_1]
          exact ih (k + 1) _ μ1 (by omega) hf kp hb h1 h2
        · have c' : S 18 k = -1 := by
            have z := (bc_n c).2
            rw [ck] at z; exact z
          have ec : c_turn V N s S k = some (y_well (y_ys V N (y_in S k s))) := by unfold c_turn; rw [if_pos c']
          rw [ec] at h1 h2
          obtain ⟨i1, i2, i3, i4⟩ := in_at (S := S) (p := k) (s := s)
          have h2' : RG (pc3 μ1 k (nI s)) n V (y_in S k s) := hR.p i1 (fun _ => ⟨i2, i3⟩) i4 (gw_in hs hR.2.1) (gr_in (by omega) hs hR.2.2.1)
          have hb' : BR (pc3 μ1 k (nI s)) q := hb.of (fun j => pc3_o 7 0 j (by omega))
          refine r_wellBehind (by omega) h2' fun μ2 f2 => k_X7_outOfTurn_94 (r_looks (hb'.w f2) fun μ3 g3 e3 b3 => k_X7_outOfTurn_97 (r_takesBack fun μ4 e4 e5 => k_X7_outOfTurn_101 ?_))
          rw [nI_1]
          have z := ft_back hf kp pc3_o f2 g3 e3 e4 e5
          exact ih (k + 1) _ μ4 (by omega) z.1 z.2 (b3.of (fun j => e4 7 0 j (by omega))) h1 h2
    refine r_keeps fun μ3 e3 k3 => k_X7_outOfTurn_58 ?_
    have g1 : ft μ (si_ms (si_ms μ 7 0 32 (-1)) 7 0 33 (-1)) := (ft.fm (Or.inl rfl)).tr (ft.fm (Or.inr rfl))
    have hc' : ∀ p, p < gP S → (c_turn V N s S p = none ↔ S 18 p ≠ -1) := fun p _ => by
      unfold c_turn
      constructor
      · intro e z; rw [if_pos z] at e; cases e
      · intro z; rw [if_neg z]
    have all : (bf (c_turn V N s S) (gP S) 0 (-1, -1)).1 = -1 → ∀ p, p < gP S → c_turn V N s S p = none := by
      have gen : ∀ (m k : Nat) (q : Int32 × Int32), k + m = gP S → (q.1 ≠ -1 ∨ q = (-1, -1)) → (bf (c_turn V N s S) m k q).1 = -1 → q = (-1, -1) ∧ ∀ p, k ≤ p → p < gP S → c_turn V N s S p = none := by
        intro m
        induction m with
        | zero => exact fun k q hk hq e => ⟨hq.resolve_left (fun z => z e), fun p p1 p2 => absurd p2 (by omega)⟩
        | succ m ih =>
          intro k q hk hq e
          rw [bf] at e
          cases ek : c_turn V N s S k with
          | none =>
            rw [ek] at e
            have z := ih (k + 1) q (by omega) hq e
            refine ⟨z.1, fun p p1 p2 => ?_⟩
            by_cases ep : p = k
            · subst ep; exact ek
            · exact z.2 p (by omega) p2
          | some v =>
            rw [ek] at e
            have hv := hc k v (by omega) ek
            have e' : (bf (c_turn V N s S) m (k + 1) (off q (nI k) v)).1 = -1 := e
            have o1 : (off q (nI k) v).1 ≠ -1 := by
              unfold off
              split
              · rename_i c1
                rcases hq with z | z
                · exact z
                · rw [z] at c1; exact absurd c1 hv
              · exact nI_neg1 (by omega)
            have z := ih (k + 1) _ (by omega) (Or.inl o1) e'
            exact absurd (by rw [z.1]) o1
      exact fun e p hp => (gen (gP S) 0 (-1, -1) (by omega) (Or.inr rfl) e).2 p (by omega) hp
    refine lp (gP S) 0 (-1, -1) _ (by omega) ⟨fun a i j n1 n2 => ?_, fun k hk => (e3 35 0 k (by omega)).trans (g1.2 k hk)⟩ (fun k hk => (k3 k hk).trans (g1.2 k hk)) ⟨?_, ?_⟩ (fun ne => ?_) (fun e => ?_)
    · rw [e3 a i j (fun q => by rw [q.1] at n2; exact absurd n2 (by decide))]; exact g1.1 a i j n1 n2
    · rw [e3 7 0 32 (by omega), ms_eq, if_neg (by omega), ms_eq, if_pos ⟨rfl, rfl, rfl⟩]
    · rw [e3 7 0 33 (by omega), ms_eq, if_pos ⟨rfl, rfl, rfl⟩]
    · have nc : ¬ g_cnt (S 18) (-1) (gP S) 0 0 ≤ 0 := fun z => ne (by
        have a0 := (cnt_0 (by omega)).mp z
        rw [bf_id (gP S) 0 _ (fun p _ p2 => (hc' p (by omega)).mpr (a0 p (by omega)))])
      rw [if_neg nc] at hq; exact hq
    · have a0 := all e
      have cc : g_cnt (S 18) (-1) (gP S) 0 0 ≤ 0 := (cnt_0 (by omega)).mpr (fun p hp => (hc' p hp).mp (a0 p hp))
      rw [if_pos cc, bf_id (gP S) 0 _ (fun p _ p2 => a0 p (by omega))] at hq
      exact hq
  · have hok : (0 ≤ w ∧ w ≤ 5) ∧ (0 ≤ y ∧ y ≤ 30) ∧ (0 ≤ x ∧ x ≤ 1) := ⟨bc_n c0, bc_n c, bc_n c2⟩
    rw [ic_t hok] at hq
    obtain ⟨s, hs, rfl⟩ := st_n (bc_n c0)
    have cs : (nI s).toNatClampNeg = s := nI_c (by omega)
    have c3' : ¬ wI S s = -1 := c3
    rw [cs, ic_f c3'] at hq
    exact hq μ rf.refl h
set_option maxHeartbeats 2000000 in
theorem rc_chg (h : RI μ n V S K R zz f) (hq : ∀ μ', rf μ μ' → RI μ' n V S K R zz f → Q (some (.inl (A_chg V S y x))) μ') : si_W sc (d + 47) 217 0 [some (.inr (.inr (7, 0))), some (.inl y), some (.inl x), none, none] [] μ Q := by
  unfold A_chg at hq
  have h8 := h.1.2.1.1
  have hbad : ¬ okB y x → Q (some (.inl (-2))) μ := fun c => by rw [ic_f c] at hq; exact hq μ rf.refl h
  refine k_X7_change_0 (r_in l0 c30_ (k_X7_change_9 ⟨fun c => hbad (fun a => bc_0 c a.1), fun c => r_in l0 l1 (k_X7_change_19 ⟨fun c2 => ?_, fun c2 => hbad (fun a => bc_0 c2 a.2)⟩)⟩))
  have hok : okB y x := ⟨bc_n c, bc_n c2⟩
  rw [ic_t hok] at hq
  obtain ⟨N, hN, rfl⟩ := sp_n (bc_n c)
  rw [tN N hN] at hq
  have lq : ∀ (m a b : Nat) (q : Int32 × Int32) (μ1 : si_Mm), a < b → b + m = gP S → ft μ μ1 → (∀ k, k < 38 → μ1.1 37 0 k = μ.1 35 0 k) → BR μ1 q → (∀ μ4 (b4 : Int32), ft μ μ4 → (∀ k, k < 38 → μ4.1 37 0 k = μ.1 35 0 k) → BR μ4 (c_chg V N S a m b q) → si_W sc (d + 47) 217 45 [some (.inr (.inr (7, 0))), some (.inl (nI N)), some (.inl x), some (.inl (nI a + 1)), some (.inl b4)] [] μ4 Q) → si_W sc (d + 47) 217 58 [some (.inr (.inr (7, 0))), some (.inl (nI N)), some (.inl x), some (.inl (nI a)), some (.inl (nI b))] [] μ1 Q := by
    intro m
    induction m with
    | zero =>
      intro a b q μ1 hab hk hf kp hb hq
      have hR := h.1.t hf
      refine k_X7_change_58 ⟨fun _ => hq μ1 _ hf kp hb, fun hn => absurd ?_ hn⟩
      rw [hR.1.P hR.2.1, nI_le8 (by omega) (by omega)]; omega
    | succ m ih =>
      intro a b q μ1 hab hk hf kp hb hq
      have hR := h.1.t hf
      have ca : (nI a).toNatClampNeg = a := nI_c (by omega)
      have cb : (nI b).toNatClampNeg = b := nI_c (by omega)
      rw [c_chg] at hq
      have skip : ¬ (0 ≤ S 18 a ∧ 0 ≤ S 18 b) → si_W sc (d + 47) 217 146 [some (.inr (.inr (7, 0))), some (.inl (nI N)), some (.inl x), some (.inl (nI a)), some (.inl (nI b))] [] μ1 Q := fun cc => by
        rw [if_neg cc] at hq
        refine k_X7_change_146 ?_
        rw [nI_1]
        exact ih a (b + 1) q μ1 (by omega) (by omega) hf kp hb hq
      refine k_X7_change_58 ⟨fun hn => ?_, fun _ => r_hasOne hR.1 hR.2.1 (k_X7_change_72 ⟨fun c => skip (fun z => bc_0 c ⟨isP_nI h8 (by omega), by rw [ca]; exact z.1⟩), fun c3 => r_hasOne hR.1 hR.2.1 (k_X7_change_81 ⟨fun c => skip (fun z => bc_0 c ⟨isP_nI h8 (by omega), by rw [cb]; exact z.2⟩), fun c4 => k_X7_at_0 (k_X7_change_93 (k_X7_at_0 (k_X7_change_103 ?_)))⟩)⟩)⟩
      · rw [hR.1.P hR.2.1, nI_le8 (by omega) (by omega)] at hn; omega
      have ha0 : 0 ≤ S 18 a := by
        have z := (bc_n c3).2
        rw [ca] at z; exact z
      have hb0 : 0 ≤ S 18 b := by
        have z := (bc_n c4).2
        rw [cb] at z; exact z
      have cc : 0 ≤ S 18 a ∧ 0 ≤ S 18 b := ⟨ha0, hb0⟩
      rw [if_pos cc] at hq
      have ka : (nI (6 + 4 * a)).toNatClampNeg = 6 + 4 * a := nI_c (by omega)
      have kb : (nI (6 + 4 * b)).toNatClampNeg = 6 + 4 * b := nI_c (by omega)
      have va : μ1.1 37 0 (6 + 4 * a) = S 18 a := (kp _ (by omega)).trans (h.1.1.2.2.2.2.2.2 a (by omega)).2.2.1
      have vb : μ1.1 37 0 (6 + 4 * b) = S 18 b := (kp _ (by omega)).trans (h.1.1.2.2.2.2.2.2 b (by omega)).2.2.1
      rw [at_0, at_0, ka, kb, vb]
      refine ⟨vp_in_nI (by omega) (by omega), vp_in_nI (by omega) (by omega), k_X7_at_0 (k_X7_change_115 (k_X7_at_0 (k_X7_change_124 ?_)))⟩
      rw [at_0, at_0, ka, kb, si_ms_ne _ _ _ (by simp), va]
      refine ⟨vp_in_nI (by omega) (by omega), vp_in_nI (by omega) (by omega), ?_⟩
      have r1 : RV (si_ms μ1 35 0 (6 + 4 * a) (S 18 b)) (upS S 18 a (S 18 b)) := hR.1.r18 ha0
      have hb0' : 0 ≤ (upS S 18 a (S 18 b)) 18 b := by unfold upS; rw [if_neg (by omega)]; exact hb0
      have r2 : RV (si_ms (si_ms μ1 35 0 (6 + 4 * a) (S 18 b)) 35 0 (6 + 4 * b) (S 18 a)) (y_swap S a b) := r1.r18 hb0'
      have om : ∀ a' i j, ¬ (a' = 35 ∧ i = 0) → (si_ms (si_ms μ1 35 0 (6 + 4 * a) (S 18 b)) 35 0 (6 + 4 * b) (S 18 a)).1 a' i j = μ1.1 a' i j := fun a' i j e => by
        rw [ms_eq, if_neg (fun q => e ⟨q.1, q.2.1⟩), ms_eq, if_neg (fun q => e ⟨q.1, q.2.1⟩)]
      generalize si_ms (si_ms μ1 35 0 (6 + 4 * a) (S 18 b)) 35 0 (6 + 4 * b) (S 18 a) = μm at r2 om
      have hm : RG μm n V (y_swap S a b) := ⟨r2, gw_swap hR.2.1 (by omega) (by omega) ha0 hb0, gr_swap hR.2.2.1 (by omega) (by omega), hR.2.2.2.1, hR.2.2.2.2.1.of (by funext j; exact om 30 0 j (by omega)) (by funext j; exact om 29 0 j (by omega)), hR.2.2.2.2.2⟩
      have hb' : BR μm q := hb.of (fun j => om 7 0 j (by omega))
      refine r_wellBehind (by omega) hm fun μ2 f2 => k_X7_change_139 (r_looks (hb'.w f2) fun μ3 g3 e3 b3 => k_X7_change_142 (r_takesBack fun μ4 e4 e5 => k_X7_change_146 ?_))
      rw [nI_1]
      have z := ft_back hf kp om f2 g3 e3 e4 e5
      exact ih a (b + 1) _ μ4 (by omega) (by omega) z.1 z.2 (b3.of (fun j => e4 7 0 j (by omega))) hq
  have lp : ∀ (m k : Nat) (q : Int32 × Int32) (μ1 : si_Mm) (u : Option si_AV), k + m = gP S → ft μ μ1 → (∀ k, k < 38 → μ1.1 37 0 k = μ.1 35 0 k) → BR μ1 q → (∀ μ', rf μ μ' → RI μ' n V S K R zz f → Q (some (.inl (ansB (c_chg2 V N S m k q) x))) μ') → si_W sc (d + 47) 217 45 [some (.inr (.inr (7, 0))), some (.inl (nI N)), some (.inl x), some (.inl (nI k)), u] [] μ1 Q := by
    intro m
    induction m with
    | zero =>
      intro k q μ1 u hk hf kp hb hq
      refine k_X7_change_45 ⟨fun _ => h.b hf hb x hq, fun hn => absurd ?_ hn⟩
      rw [(h.1.t hf).1.P h.1.2.1, nI_le8 (by omega) (by omega)]; omega
    | succ m ih =>
      intro k q μ1 u hk hf kp hb hq
      have hR := h.1.t hf
      rw [c_chg2] at hq
      refine k_X7_change_45 ⟨fun hn => ?_, fun _ => ?_⟩
      · rw [hR.1.P hR.2.1, nI_le8 (by omega) (by omega)] at hn; omega
      · rw [nI_1]
        refine lq (gP S - (k + 1)) k (k + 1) q μ1 (by omega) (by omega) hf kp hb fun μ4 b4 g4 k4 b4' => ?_
        rw [nI_1]
        exact ih (k + 1) _ μ4 _ (by omega) g4 k4 b4' hq
  have g0 : ft μ (si_ms μ 7 0 32 (-1)) := ft.fm (Or.inl rfl)
  refine r_wellBehind (by omega) (h.1.t g0) fun μ2 f2 => k_X7_change_36 (r_keeps fun μ3 e3 k3 => k_X7_change_43 ?_)
  have g1 := g0.tr (f2.t.tr (ft.fm (μ := μ2) (v := y_well (y_ys V N S)) (Or.inr rfl)))
  refine lp (gP S) 0 (-1, _) _ _ (by omega) ⟨fun a i j n1 n2 => ?_, fun k hk => (e3 35 0 k (by omega)).trans (g1.2 k hk)⟩ (fun k hk => (k3 k hk).trans (g1.2 k hk)) ⟨?_, ?_⟩ hq
  · rw [e3 a i j (fun q => by rw [q.1] at n2; exact absurd n2 (by decide))]; exact g1.1 a i j n1 n2
  · rw [e3 7 0 32 (by omega), ms_eq, if_neg (by omega)]
    refine (f2.1 7 0 32 (fun z => by have := Jw_i.mp z.2.2; omega) rfl).trans ?_
    rw [ms_eq, if_pos ⟨rfl, rfl, rfl⟩]
  · rw [e3 7 0 33 (by omega), ms_eq, if_pos ⟨rfl, rfl, rfl⟩]
end RX6
