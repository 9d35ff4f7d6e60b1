/-! the reference's levels -/
section RD
variable {sc : si_Sc} {f : Nat → Int32} {z fr nt : Nat} {nm : Nat → Int32} {D o nd : Nat} {p : PF}
theorem AT_27 {k : Nat} {μ : si_Mm} {v : Int32} (h : AT f z k μ) : AT f z k (si_ms μ 7 0 27 v) := by
  obtain ⟨g1, g2, g3⟩ := h
  refine ⟨by rw [ms_eq, if_neg (by omega)]; exact g1, by rw [ms_eq, if_neg (by omega)]; exact g2, ?_⟩
  unfold tkR at g3 ⊢
  rw [ms_eq, if_neg (by omega), ms_eq, if_neg (by omega), ms_2]
  exact g3

theorem rl_term5 (h0 : ∀ k, nt ≤ k → TT f z k = 0) (hnt : nt ≤ 160) (hD : 1 ≤ D) (hpg : pg nt p) (hp : rrS sc f z fr nm nt D 143 [none] o nd p) : rrS sc f z fr nm nt (D + 1) 144 [none] o (nd + 1) (q_chain (TT f z) o_mul p) := by
  intro d μ Q k hd hin hq
  obtain ⟨d1, rfl⟩ : ∃ d1, d = d1 + 2 := ⟨d - 2, by omega⟩
  unfold q_chain at hq
  have bl : ∀ (k1 : Nat) (v : Int32) (μ1 : si_Mm), fx Jp A0 μ μ1 → BD f z k1 μ1 → (∀ μ' v, RO f z nm o (nd + 1) (k1, none) μ μ' v → Q (some (.inl v)) μ') → si_W sc (d1 + 2) 144 5 [some (.inr (.inr (7, 0))), some (.inl v)] [] μ1 Q := fun k1 v μ1 f1 b1 hq => k_X7_term5_5 (b_isSign b1 (k_X7_term5_11 ⟨fun _ => hq μ1 v ⟨f1, b1⟩, fun c => absurd rfl c⟩))
  have lp : ∀ (m k1 : Nat) (cs : List Int32) (v : Int32) (μ1 : si_Mm), nt < k1 + m → fx Jp A0 μ μ1 → IN f z fr nm o nt k1 μ1 → Gd nm cs v (nd + 1) → (∀ μ' v, RO f z nm o (nd + 1) (q_lp (TT f z) o_mul p m k1 cs) μ μ' v → Q (some (.inl v)) μ') → si_W sc (d1 + 2) 144 5 [some (.inr (.inr (7, 0))), some (.inl v)] [] μ1 Q := by
    intro m
    induction m with
    | zero => intro k1 cs v μ1 hk f1 i1 g1 hq; have := i1.2.2.2.2; omega
    | succ m ih =>
      intro k1 cs v μ1 hk f1 i1 g1 hq
      unfold q_lp at hq
      refine k_X7_term5_5 (r_isSign (by unfold isG; decide) i1.2.1 (k_X7_term5_11 ⟨fun c => ?_, fun c => ?_⟩))
      · have c' := bi_0.mp c
        have e : o_mul (TT f z k1) = none := if_neg c'
        rw [e] at hq
        exact hq μ1 v ⟨f1, i1.2.1, i1.2.2.1, g1⟩
      · have c' := bi_n c
        have e : o_mul (TT f z k1) = some (-18) := if_pos c'
        rw [e] at hq
        dsimp only at hq
        refine r_nx h0 i1 (TT_g (by unfold isG; decide) c') fun μ2 f2 i2 => k_X7_term5_18 (hp (d1 + 1) μ2 _ (k1 + 1) (by omega) i2 fun μ3 w r3 => k_X7_term5_23 ?_)
        have f13 := (f1.tr f2).tr r3.1
        rcases hr : p (k1 + 1) with ⟨k2, _ | ds⟩
        · rw [hr] at r3 hq
          exact bl k2 _ μ3 f13 r3.2 hq
        · rw [hr] at r3 hq
          have hk2 := pg_s hpg i2.2.2.2.2 hr
          refine ih k2 _ _ μ3 (by omega) f13 ⟨i2.1.p r3.1, r3.2.1, r3.2.2.1, nm_p i2.2.2.2.1 r3.1, hk2.2.1⟩ ?_ hq
          have g := Gd_bin (cbin (-18) (by decide)) g1 r3.2.2.2 (Nat.le_refl _)
          rw [op18] at g; exact g
  refine k_X7_term5_0 (hp (d1 + 1) μ _ k (by omega) hin fun μ1 v r1 => k_X7_term5_4 ?_)
  rcases hr : p k with ⟨k1, _ | cs⟩
  · rw [hr] at r1 hq
    exact bl k1 v μ1 r1.1 r1.2 hq
  · rw [hr] at r1 hq
    have hk1 := pg_s hpg hin.2.2.2.2 hr
    exact lp 160 k1 cs v μ1 (by omega) r1.1 ⟨hin.1.p r1.1, r1.2.1, r1.2.2.1, nm_p hin.2.2.2.1 r1.1, hk1.2.1⟩ (r1.2.2.2.mo (by omega)) hq

theorem rl_added5 (h0 : ∀ k, nt ≤ k → TT f z k = 0) (hnt : nt ≤ 160) (hD : 1 ≤ D) (hpg : pg nt p) (hp : rrS sc f z fr nm nt D 144 [none] o nd p) : rrS sc f z fr nm nt (D + 1) 145 [none, none, none] o (nd + 1) (q_chain (TT f z) o_add p) := by
  intro d μ Q k hd hin hq
  obtain ⟨d1, rfl⟩ : ∃ d1, d = d1 + 2 := ⟨d - 2, by omega⟩
  unfold q_chain at hq
  have bl : ∀ (k1 : Nat) (v : Int32) (μ1 : si_Mm) (u2 u3 : Option si_AV), fx Jp A0 μ μ1 → BD f z k1 μ1 → (∀ μ' v, RO f z nm o (nd + 1) (k1, none) μ μ' v → Q (some (.inl v)) μ') → si_W sc (d1 + 2) 145 5 [some (.inr (.inr (7, 0))), some (.inl v), u2, u3] [] μ1 Q := fun k1 v μ1 u2 u3 f1 b1 hq => k_X7_added5_5 (b_isSign b1 (k_X7_added5_11 ⟨fun c => absurd rfl c, fun _ => b_isSign b1 (k_X7_added5_20 ⟨fun _ => hq μ1 v ⟨f1, b1⟩, fun c => absurd rfl c⟩)⟩))
  have lp : ∀ (m k1 : Nat) (cs : List Int32) (v : Int32) (μ1 : si_Mm) (u2 u3 : Option si_AV), nt < k1 + m → fx Jp A0 μ μ1 → IN f z fr nm o nt k1 μ1 → Gd nm cs v (nd + 1) → (∀ μ' v, RO f z nm o (nd + 1) (q_lp (TT f z) o_add p m k1 cs) μ μ' v → Q (some (.inl v)) μ') → si_W sc (d1 + 2) 145 5 [some (.inr (.inr (7, 0))), some (.inl v), u2, u3] [] μ1 Q := by
    intro m
    induction m with
    | zero => intro k1 cs v μ1 u2 u3 hk f1 i1 g1 hq; have := i1.2.2.2.2; omega
    | succ m ih =>
      intro k1 cs v μ1 u2 u3 hk f1 i1 g1 hq
      unfold q_lp at hq
      have e43 : si_c64 7 = (43 : Int32).toInt64 := by decide +kernel
      have lg : isG (TT f z k1) → (lg_cmp μ1.2 (si_c64 7) = 0 ↔ TT f z k1 = 43) := by
        intro hg
        rcases i1.2.1.cs with q | q | q | q | q
        · rw [q.1] at hg; exact absurd hg (by unfold isG; decide)
        · exfalso
          have hr := isG_c hg
          rcases wc_r (wl f (lb f z (en f z k1)) (wE f z (lb f z (en f z k1)))) with w1 | ⟨w, hw, w1, _⟩
          · rw [q.2.2.2.2.1, w1, i_1] at hr; omega
          · have := cw_r w hw; rw [q.2.2.2.2.1, w1] at hr; omega
        · rw [q.1] at hg; exact absurd hg (by unfold isG; decide)
        · rw [lg_cmp_eq, q.2.2.2, e43, ← Int64.toInt_inj, Int32.toInt_toInt64, Int32.toInt_toInt64, i_eq]
        · rw [q.1] at hg; exact absurd hg (by unfold isG; decide)
      have go : ∀ (a2 c : Int32) (u3 : Option si_AV), (TT f z k1 ≠ 0 ∧ TT f z k1 ≠ 1) → o_add (TT f z k1) = some c → ((a2 = 0 ∧ c = -17) ∨ (a2 = 1 ∧ c = -16)) → si_W sc (d1 + 1) 136 0 [some (.inr (.inr (7, 0))), none, none] [] μ1 (fun rv μq => si_W sc (d1 + 2) 145 44 [some (.inr (.inr (7, 0))), some (.inl v), some (.inl a2), u3] (si_rt rv []) μq Q) := by
        intro a2 c u3 hT e ha
        rw [e] at hq
        dsimp only at hq
        refine r_nx h0 i1 hT fun μ2 f2 i2 => k_X7_added5_44 (hp (d1 + 1) μ2 _ (k1 + 1) (by omega) i2 fun μ3 w r3 => ?_)
        have f13 := (f1.tr f2).tr r3.1
        rcases hr : p (k1 + 1) with ⟨k2, _ | ds⟩
        · rw [hr] at r3 hq
          rcases ha with ⟨rfl, rfl⟩ | ⟨rfl, rfl⟩
          · exact k_X7_added5_48 ⟨fun _ => bl k2 _ μ3 _ _ f13 r3.2 hq, fun c => absurd rfl c⟩
          · exact k_X7_added5_48 ⟨fun c => absurd c (by decide), fun _ => bl k2 _ μ3 _ _ f13 r3.2 hq⟩
        · rw [hr] at r3 hq
          have hk2 := pg_s hpg i2.2.2.2.2 hr
          have i3 : IN f z fr nm o nt k2 μ3 := ⟨i2.1.p r3.1, r3.2.1, r3.2.2.1, nm_p i2.2.2.2.1 r3.1, hk2.2.1⟩
          rcases ha with ⟨rfl, rfl⟩ | ⟨rfl, rfl⟩
          · have g := Gd_bin (cbin (-17) (by decide)) g1 r3.2.2.2 (Nat.le_refl _)
            rw [op17] at g
            exact k_X7_added5_48 ⟨fun _ => ih k2 _ _ μ3 _ _ (by omega) f13 i3 g hq, fun c => absurd rfl c⟩
          · have g := Gd_bin (cbin (-16) (by decide)) g1 r3.2.2.2 (Nat.le_refl _)
            rw [op16] at g
            exact k_X7_added5_48 ⟨fun c => absurd c (by decide), fun _ => ih k2 _ _ μ3 _ _ (by omega) f13 i3 g hq⟩
      refine k_X7_added5_5 (r_isSign (by unfold isG; decide) i1.2.1 (k_X7_added5_11 ⟨fun c => ?_, fun c => r_isSign (by unfold isG; decide) i1.2.1 (k_X7_added5_20 ⟨fun c2 => ?_, fun c2 => ?_⟩)⟩))
      · have c' := bi_n c
        have hg : isG (TT f z k1) := by rw [c']; unfold isG; decide
        exact ⟨fun c3 => absurd ((lg hg).mpr c') c3, fun _ => go 1 (-16) u3 (TT_g (by unfold isG; decide) c') (if_pos c') (Or.inr ⟨rfl, rfl⟩)⟩
      · have e : o_add (TT f z k1) = none := by unfold o_add; rw [if_neg (bi_0.mp c), if_neg (bi_0.mp c2)]
        rw [e] at hq
        exact hq μ1 v ⟨f1, i1.2.1, i1.2.2.1, g1⟩
      · have c' := bi_n c2
        have hg : isG (TT f z k1) := by rw [c']; unfold isG; decide
        have e : o_add (TT f z k1) = some (-17) := by unfold o_add; rw [if_neg (bi_0.mp c), if_pos c']
        exact ⟨fun _ => go 0 (-17) u3 (TT_g (by unfold isG; decide) c') e (Or.inl ⟨rfl, rfl⟩), fun c3 => absurd ((lg hg).mp c3) (bi_0.mp c)⟩
  refine k_X7_added5_0 (hp (d1 + 1) μ _ k (by omega) hin fun μ1 v r1 => k_X7_added5_4 ?_)
  rcases hr : p k with ⟨k1, _ | cs⟩
  · rw [hr] at r1 hq
    exact bl k1 v μ1 _ _ r1.1 r1.2 hq
  · rw [hr] at r1 hq
    have hk1 := pg_s hpg hin.2.2.2.2 hr
    exact lp 160 k1 cs v μ1 _ _ (by omega) r1.1 ⟨hin.1.p r1.1, r1.2.1, r1.2.2.1, nm_p hin.2.2.2.1 r1.1, hk1.2.1⟩ (r1.2.2.2.mo (by omega)) hq

set_option maxHeartbeats 1000000 in
theorem rl_not5 (h0 : ∀ k, nt ≤ k → TT f z k = 0) (hD : 5 ≤ D) (hpg : pg nt p) (hp : rrS sc f z fr nm nt D 145 [none, none, none] 5 nd p) : rrS sc f z fr nm nt (D + 1) 146 [none, none, none] 5 (nd + 1) (q_not (TT f z) none p) := by
  intro d μ Q k hd hin hq
  obtain ⟨d1, rfl⟩ : ∃ d1, d = d1 + 3 := ⟨d - 3, by omega⟩
  unfold q_not at hq
  have e60 : si_c64 8 = (60 : Int32).toInt64 := by decide +kernel
  refine k_X7_not5_0 (r_isW (w := 5) (by decide) (by decide +kernel) hin.1 hin.2.1 (k_X7_not5_15 ⟨fun c => ?_, fun c => ?_⟩))
  · have c' : ¬ TT f z k = 206 := bi_0.mp c
    rw [if_neg c'] at hq
    refine hp (d1 + 2) μ _ k (by omega) hin fun μ1 v r1 => k_X7_not5_29 ?_
    rcases hr : p k with ⟨k1, _ | cs⟩
    · rw [hr] at r1 hq
      exact b_isSign r1.2 (k_X7_not5_36 ⟨fun q => absurd rfl q, fun _ => b_isSign r1.2 (k_X7_not5_45 ⟨fun q => absurd rfl q, fun _ => hq μ1 v ⟨r1.1, r1.2⟩⟩)⟩)
    · rw [hr] at r1 hq
      have hk1 := pg_s hpg hin.2.2.2.2 hr
      have i1 : IN f z fr nm 5 nt k1 μ1 := ⟨hin.1.p r1.1, r1.2.1, r1.2.2.1, nm_p hin.2.2.2.1 r1.1, hk1.2.1⟩
      unfold q_b at hq
      dsimp only at hq
      have lg : isG (TT f z k1) → (lg_cmp μ1.2 (si_c64 8) = 0 ↔ TT f z k1 = 60) := by
        intro hg
        rcases i1.2.1.cs with q | q | q | q | q
        · rw [q.1] at hg; exact absurd hg (by unfold isG; decide)
        · exfalso
          have hr := isG_c hg
          rcases wc_r (wl f (lb f z (en f z k1)) (wE f z (lb f z (en f z k1)))) with w1 | ⟨w, hw, w1, _⟩
          · rw [q.2.2.2.2.1, w1, i_1] at hr; omega
          · have := cw_r w hw; rw [q.2.2.2.2.1, w1] at hr; omega
        · rw [q.1] at hg; exact absurd hg (by unfold isG; decide)
        · rw [lg_cmp_eq, q.2.2.2, e60, ← Int64.toInt_inj, Int32.toInt_toInt64, Int32.toInt_toInt64, i_eq]
        · rw [q.1] at hg; exact absurd hg (by unfold isG; decide)
      have go : ∀ (a2 c : Int32) (u3 : Option si_AV), (TT f z k1 ≠ 0 ∧ TT f z k1 ≠ 1) → ((a2 = 0 ∧ c = -15) ∨ (a2 = 1 ∧ c = -14)) → (∀ μ' v, RO f z nm 5 (nd + 1) (q_b (p (k1 + 1)) fun k2 ds => (k2, some (cs ++ (ds ++ [c])))) μ μ' v → Q (some (.inl v)) μ') → si_W sc (d1 + 2) 136 0 [some (.inr (.inr (7, 0))), none, none] [] μ1 (fun rv μq => si_W sc (d1 + 3) 146 71 [some (.inr (.inr (7, 0))), some (.inl v), some (.inl a2), u3] (si_rt rv []) μq Q) := by
        intro a2 c u3 hT ha hq
        refine r_nx h0 i1 hT fun μ2 f2 i2 => k_X7_not5_71 (hp (d1 + 2) μ2 _ (k1 + 1) (by omega) i2 fun μ3 w r3 => ?_)
        have f13 := (r1.1.tr f2).tr r3.1
        have key : ∀ v' : Int32, v' = ev_op c v w → Q (some (.inl v')) μ3 := by
          intro v' hv
          rcases hr : p (k1 + 1) with ⟨k2, _ | ds⟩
          · rw [hr] at r3 hq
            exact hq μ3 v' ⟨f13, r3.2⟩
          · rw [hr] at r3 hq
            refine hq μ3 v' ⟨f13, r3.2.1, r3.2.2.1, ?_⟩
            rw [hv]
            exact Gd_bin (cbin c (by rcases ha with ⟨_, rfl⟩ | ⟨_, rfl⟩ <;> decide)) (r1.2.2.2.mo (by omega)) r3.2.2.2 (Nat.le_refl _)
        rcases ha with ⟨rfl, rfl⟩ | ⟨rfl, rfl⟩
        · rw [op15] at key
          exact k_X7_not5_75 ⟨fun _ => ⟨fun q => key 0 (bi_f q).symm, fun q => key 1 (bi_t q).symm⟩, fun q => absurd rfl q⟩
        · rw [op14] at key
          exact k_X7_not5_75 ⟨fun q => absurd q (by decide), fun _ => ⟨fun q => key 0 (bi_f (i_nlt.mpr q)).symm, fun q => key 1 (bi_t (i_nle.mp q)).symm⟩⟩
      refine r_isSign (by unfold isG; decide) i1.2.1 (k_X7_not5_36 ⟨fun c2 => ?_, fun c2 => r_isSign (by unfold isG; decide) i1.2.1 (k_X7_not5_45 ⟨fun c3 => ?_, fun c3 => ?_⟩)⟩)
      · have c2' := bi_n c2
        rw [if_pos c2'] at hq
        have hg : isG (TT f z k1) := by rw [c2']; unfold isG; decide
        exact ⟨fun c4 => absurd ((lg hg).mpr c2') c4, fun _ => go 1 (-14) _ (TT_g (by unfold isG; decide) c2') (Or.inr ⟨rfl, rfl⟩) hq⟩
      · have c3' := bi_n c3
        rw [if_neg (bi_0.mp c2), if_pos c3'] at hq
        have hg : isG (TT f z k1) := by rw [c3']; unfold isG; decide
        exact ⟨fun _ => go 0 (-15) _ (TT_g (by unfold isG; decide) c3') (Or.inl ⟨rfl, rfl⟩) hq, fun c4 => absurd ((lg hg).mp c4) (bi_0.mp c2)⟩
      · rw [if_neg (bi_0.mp c2), if_neg (bi_0.mp c3)] at hq
        exact hq μ1 v ⟨r1.1, r1.2.1, r1.2.2.1, r1.2.2.2.mo (by omega)⟩
  · have c' : TT f z k = 206 := bi_n c
    rw [if_pos c'] at hq
    dsimp only at hq
    exact r_opens h0 (by omega) hin (TT_w (w := 5) (by decide) (bi_n c)) (fun _ μ1 f1 b1 => k_X7_not5_22 (hq μ1 0 ⟨f1, b1⟩)) (fun h5 => by omega)

theorem rl_both5 (h0 : ∀ k, nt ≤ k → TT f z k = 0) (hnt : nt ≤ 160) (hD : 2 ≤ D) (hpg : pg nt p) (hp : rrS sc f z fr nm nt D 146 [none, none, none] o nd p) : rrS sc f z fr nm nt (D + 1) 147 [none, none] o (nd + 1) (q_chain (TT f z) o_and p) := by
  intro d μ Q k hd hin hq
  obtain ⟨d1, rfl⟩ : ∃ d1, d = d1 + 3 := ⟨d - 3, by omega⟩
  unfold q_chain at hq
  have bl : ∀ (k1 : Nat) (v : Int32) (μ1 : si_Mm) (u2 : Option si_AV), fx Jp A0 μ μ1 → BD f z k1 μ1 → (∀ μ' v, RO f z nm o (nd + 1) (k1, none) μ μ' v → Q (some (.inl v)) μ') → si_W sc (d1 + 3) 147 5 [some (.inr (.inr (7, 0))), some (.inl v), u2] [] μ1 Q := fun k1 v μ1 u2 f1 b1 hq => k_X7_both5_5 (b_isW b1 (k_X7_both5_20 ⟨fun _ => hq μ1 v ⟨f1, b1⟩, fun c => absurd rfl c⟩))
  have lp : ∀ (m k1 : Nat) (cs : List Int32) (v : Int32) (μ1 : si_Mm) (u2 : Option si_AV), nt < k1 + m → fx Jp A0 μ μ1 → IN f z fr nm o nt k1 μ1 → Gd nm cs v (nd + 1) → (∀ μ' v, RO f z nm o (nd + 1) (q_lp (TT f z) o_and p m k1 cs) μ μ' v → Q (some (.inl v)) μ') → si_W sc (d1 + 3) 147 5 [some (.inr (.inr (7, 0))), some (.inl v), u2] [] μ1 Q := by
    intro m
    induction m with
    | zero => intro k1 cs v μ1 u2 hk f1 i1 g1 hq; have := i1.2.2.2.2; omega
    | succ m ih =>
      intro k1 cs v μ1 u2 hk f1 i1 g1 hq
      unfold q_lp at hq
      refine k_X7_both5_5 (r_isW (w := 4) (by decide) (by decide +kernel) i1.1 i1.2.1 (k_X7_both5_20 ⟨fun c => ?_, fun c => ?_⟩))
      · have c' : ¬ TT f z k1 = 205 := bi_0.mp c
        have e : o_and (TT f z k1) = none := if_neg c'
        rw [e] at hq
        exact hq μ1 v ⟨f1, i1.2.1, i1.2.2.1, g1⟩
      · have c' : TT f z k1 = 205 := bi_n c
        have e : o_and (TT f z k1) = some (-12) := if_pos c'
        rw [e] at hq
        dsimp only at hq
        refine r_nx h0 i1 (TT_w (w := 4) (by decide) (bi_n c)) fun μ2 f2 i2 => k_X7_both5_27 (hp (d1 + 2) μ2 _ (k1 + 1) (by omega) i2 fun μ3 w r3 => ?_)
        have f13 := (f1.tr f2).tr r3.1
        have key : ∀ (v' : Int32) (u2 : Option si_AV), v' = ev_op (-12) v w → si_W sc (d1 + 3) 147 5 [some (.inr (.inr (7, 0))), some (.inl v'), u2] [] μ3 Q := by
          intro v' u2 hv
          rcases hr : p (k1 + 1) with ⟨k2, _ | ds⟩
          · rw [hr] at r3 hq
            exact bl k2 _ μ3 _ f13 r3.2 hq
          · rw [hr] at r3 hq
            have hk2 := pg_s hpg i2.2.2.2.2 hr
            refine ih k2 _ _ μ3 _ (by omega) f13 ⟨i2.1.p r3.1, r3.2.1, r3.2.2.1, nm_p i2.2.2.2.1 r3.1, hk2.2.1⟩ ?_ hq
            have g := Gd_bin (cbin (-12) (by decide)) g1 r3.2.2.2 (Nat.le_refl _)
            rw [hv]; exact g
        rw [op12] at key
        refine k_X7_both5_31 ⟨fun q1 => key 0 _ (bi_f (fun q => q.1 q1)).symm, fun q1 => ⟨fun q2 => key 0 _ (bi_f (fun q => q.2 q2)).symm, fun q2 => key 1 _ (bi_t ⟨q1, q2⟩).symm⟩⟩
  refine k_X7_both5_0 (hp (d1 + 2) μ _ k (by omega) hin fun μ1 v r1 => k_X7_both5_4 ?_)
  rcases hr : p k with ⟨k1, _ | cs⟩
  · rw [hr] at r1 hq
    exact bl k1 v μ1 _ r1.1 r1.2 hq
  · rw [hr] at r1 hq
    have hk1 := pg_s hpg hin.2.2.2.2 hr
    exact lp 160 k1 cs v μ1 _ (by omega) r1.1 ⟨hin.1.p r1.1, r1.2.1, r1.2.2.1, nm_p hin.2.2.2.1 r1.1, hk1.2.1⟩ (r1.2.2.2.mo (by omega)) hq

theorem rl_either5 (h0 : ∀ k, nt ≤ k → TT f z k = 0) (hnt : nt ≤ 160) (hD : 2 ≤ D) (hpg : pg nt p) (hp : rrS sc f z fr nm nt D 147 [none, none] o nd p) : rrS sc f z fr nm nt (D + 1) 148 [none, none] o (nd + 1) (q_chain (TT f z) o_or p) := by
  intro d μ Q k hd hin hq
  obtain ⟨d1, rfl⟩ : ∃ d1, d = d1 + 3 := ⟨d - 3, by omega⟩
  unfold q_chain at hq
  have bl : ∀ (k1 : Nat) (v : Int32) (μ1 : si_Mm) (u2 : Option si_AV), fx Jp A0 μ μ1 → BD f z k1 μ1 → (∀ μ' v, RO f z nm o (nd + 1) (k1, none) μ μ' v → Q (some (.inl v)) μ') → si_W sc (d1 + 3) 148 5 [some (.inr (.inr (7, 0))), some (.inl v), u2] [] μ1 Q := fun k1 v μ1 u2 f1 b1 hq => k_X7_either5_5 (b_isW b1 (k_X7_either5_19 ⟨fun _ => hq μ1 v ⟨f1, b1⟩, fun c => absurd rfl c⟩))
  have lp : ∀ (m k1 : Nat) (cs : List Int32) (v : Int32) (μ1 : si_Mm) (u2 : Option si_AV), nt < k1 + m → fx Jp A0 μ μ1 → IN f z fr nm o nt k1 μ1 → Gd nm cs v (nd + 1) → (∀ μ' v, RO f z nm o (nd + 1) (q_lp (TT f z) o_or p m k1 cs) μ μ' v → Q (some (.inl v)) μ') → si_W sc (d1 + 3) 148 5 [some (.inr (.inr (7, 0))), some (.inl v), u2] [] μ1 Q := by
    intro m
    induction m with
    | zero => intro k1 cs v μ1 u2 hk f1 i1 g1 hq; have := i1.2.2.2.2; omega
    | succ m ih =>
      intro k1 cs v μ1 u2 hk f1 i1 g1 hq
      unfold q_lp at hq
      refine k_X7_either5_5 (r_isW (w := 3) (by decide) (by decide +kernel) i1.1 i1.2.1 (k_X7_either5_19 ⟨fun c => ?_, fun c => ?_⟩))
      · have c' : ¬ TT f z k1 = 204 := bi_0.mp c
        have e : o_or (TT f z k1) = none := if_neg c'
        rw [e] at hq
        exact hq μ1 v ⟨f1, i1.2.1, i1.2.2.1, g1⟩
      · have c' : TT f z k1 = 204 := bi_n c
        have e : o_or (TT f z k1) = some (-11) := if_pos c'
        rw [e] at hq
        dsimp only at hq
        refine r_nx h0 i1 (TT_w (w := 3) (by decide) (bi_n c)) fun μ2 f2 i2 => k_X7_either5_26 (hp (d1 + 2) μ2 _ (k1 + 1) (by omega) i2 fun μ3 w r3 => ?_)
        have f13 := (f1.tr f2).tr r3.1
        have key : ∀ (v' : Int32) (u2 : Option si_AV), v' = ev_op (-11) v w → si_W sc (d1 + 3) 148 5 [some (.inr (.inr (7, 0))), some (.inl v'), u2] [] μ3 Q := by
          intro v' u2 hv
          rcases hr : p (k1 + 1) with ⟨k2, _ | ds⟩
          · rw [hr] at r3 hq
            exact bl k2 _ μ3 _ f13 r3.2 hq
          · rw [hr] at r3 hq
            have hk2 := pg_s hpg i2.2.2.2.2 hr
            refine ih k2 _ _ μ3 _ (by omega) f13 ⟨i2.1.p r3.1, r3.2.1, r3.2.2.1, nm_p i2.2.2.2.1 r3.1, hk2.2.1⟩ ?_ hq
            have g := Gd_bin (cbin (-11) (by decide)) g1 r3.2.2.2 (Nat.le_refl _)
            rw [hv]; exact g
        rw [op11] at key
        refine k_X7_either5_30 ⟨fun q1 => key 1 _ (bi_t (Or.inl q1)).symm, fun q1 => ⟨fun q2 => key 0 _ (bi_f (fun q => q.elim (fun a => a q1) (fun a => a q2))).symm, fun q2 => key 1 _ (bi_t (Or.inr q2)).symm⟩⟩
  refine k_X7_either5_0 (hp (d1 + 2) μ _ k (by omega) hin fun μ1 v r1 => k_X7_either5_4 ?_)
  rcases hr : p k with ⟨k1, _ | cs⟩
  · rw [hr] at r1 hq
    exact bl k1 v μ1 _ r1.1 r1.2 hq
  · rw [hr] at r1 hq
    have hk1 := pg_s hpg hin.2.2.2.2 hr
    exact lp 160 k1 cs v μ1 _ (by omega) r1.1 ⟨hin.1.p r1.1, r1.2.1, r1.2.2.1, nm_p hin.2.2.2.1 r1.1, hk1.2.1⟩ (r1.2.2.2.mo (by omega)) hq

set_option maxHeartbeats 1000000 in
theorem rl_atom5 (h0 : ∀ k, nt ≤ k → TT f z k = 0) : rrS sc f z fr nm nt (4) 143 [none] 5 1 (q_atom (TT f z) (WW f z) none none) := by
  intro d μ Q k hd hin hq
  obtain ⟨d1, rfl⟩ : ∃ d1, d = d1 + 4 := ⟨d - 4, by omega⟩
  unfold q_atom at hq
  have hend : ∀ (v : Int32) (μ1 : si_Mm), Q (some (.inl v)) μ1 → si_W sc (d1 + 4) 143 102 [some (.inr (.inr (7, 0))), some (.inl v)] [] μ1 Q := fun v μ1 h => k_X7_atom5_102 h
  refine k_X7_atom5_0 (r_isSign (by unfold isG; decide) hin.2.1 (k_X7_atom5_8 ⟨fun c1 => r_isSign (by unfold isG; decide) hin.2.1 (k_X7_atom5_25 ⟨fun c2 => ⟨fun c => absurd hin.2.1.1 c, fun _ => ⟨fun c3 => ?_, fun c3 => ?_⟩⟩, fun c2 => ?_⟩), fun c1 => ?_⟩))
  · rw [if_neg (bi_0.mp c1), if_neg (bi_0.mp c2)] at hq
    refine k_X7_atom5_64 ⟨fun c => absurd hin.2.1.1 c, fun _ => ⟨fun c4 => k_X7_atom5_98 ?_, fun c4 => r_name hin (fun w h6 h12 e => k_X7_atom5_83 ⟨fun c => absurd hin.2.1.1 c, fun _ => r_nx h0 hin (TT_w h12 e) fun μ1 f1 i1 => k_X7_atom5_95 (hend _ μ1 ?_)⟩) (fun hno μ1 f1 b1 => k_X7_atom5_83 ⟨fun _ => hend _ μ1 ?_, fun c => by rw [b1.1] at c; exact absurd c (by decide)⟩)⟩⟩
    · refine r_fail hin.2.1 fun μ1 f1 b1 _ => hend _ μ1 ?_
      have hT : ¬ TT f z k = 2 ∧ -1 < TT f z k := by
        rcases hin.2.1.cs with q | q | q | q | q
        · rw [q.1]; decide
        · exact absurd q.2.2.1 c4
        · exact absurd q.2.1 c3
        · have := isG_c q.1
          refine ⟨fun e => by rw [e, i_2] at this; omega, ?_⟩
          rw [i_lt]
          have e1 : (-1 : Int32).toInt = -1 := by decide
          omega
        · rw [q.1]; decide
      rw [if_neg hT.1, if_pos hT.2] at hq
      exact hq μ1 _ ⟨f1, b1⟩
    · obtain ⟨n1, n2, n3, n4⟩ := cw_nm w h6 h12
      have h2 : ¬ TT f z k = 2 := fun q => by rw [e] at q; rw [q] at n2; exact n2 (by decide)
      have h1 : ¬ -1 < TT f z k := by rw [e]; exact n4
      rw [if_neg h2, if_neg h1] at hq
      refine hq μ1 _ ⟨f1, i1.2.1, i1.2.2.1, ?_⟩
      rw [e]
      have g := Gd_name (nm := nm) n2 n3
      rw [n1] at g
      exact g.mo (by omega)
    · have hT : ¬ TT f z k = 2 ∧ -1 < TT f z k := by
        rcases hin.2.1.cs with q | q | q | q | q
        · rw [q.2] at c4; exact absurd c4 (by decide)
        · rw [q.2.2.2.2.1]
          rcases wc_r (wl f (lb f z (en f z k)) (wE f z (lb f z (en f z k)))) with w1 | ⟨w, hw, w1, _⟩
          · rw [w1]; decide
          · rw [w1]
            have h6 : w < 6 := Nat.lt_of_not_le fun q6 => hno w q6 hw (by rw [q.2.2.2.2.1, w1])
            have : ∀ w, w < 6 → ¬ cw w = 2 ∧ -1 < cw w := by decide +kernel
            exact this w h6
        · exact absurd q.2.1 c3
        · rw [q.2.1] at c4; exact absurd c4 (by decide)
        · rw [q.2] at c4; exact absurd c4 (by decide)
      rw [if_neg hT.1, if_pos hT.2] at hq
      exact hq μ1 _ ⟨f1, b1⟩
  · rw [if_neg (bi_0.mp c1), if_neg (bi_0.mp c2)] at hq
    have hT : TT f z k = 2 ∧ μ.2 = (WW f z k).toInt64 ∧ 0 ≤ (WW f z k).toInt := by
      rcases hin.2.1.cs with q | q | q | q | q
      · rw [q.2] at c3; exact absurd c3 (by decide)
      · rw [q.2.2.1] at c3; exact absurd c3 (by decide)
      · exact ⟨q.1, q.2.2.2.1, q.2.2.2.2⟩
      · rw [q.2.1] at c3; exact absurd c3 (by decide)
      · rw [q.2] at c3; exact absurd c3 (by decide)
    rw [if_pos hT.1] at hq
    have eW : Int64.toInt32 μ.2 = WW f z k := by rw [hT.2.1]; exact Int32.toInt32_toInt64 _
    rw [eW]
    refine r_nx h0 hin (by rw [hT.1]; decide) fun μ1 f1 i1 => k_X7_atom5_61 (hend _ μ1 (hq μ1 _ ⟨f1, i1.2.1, i1.2.2.1, (Gd_num (by rw [i_le, i_0]; exact hT.2.2)).mo (by omega)⟩))
  · have c2' := bi_n c2
    rw [if_neg (bi_0.mp c1), if_pos c2'] at hq
    dsimp only at hq
    exact r_opens h0 (by omega) hin (TT_g (by unfold isG; decide) c2') (fun _ μ1 f1 b1 => k_X7_atom5_32 (hend _ μ1 (hq μ1 _ ⟨f1, b1⟩))) (fun h5 => by omega)
  · have c1' := bi_n c1
    rw [if_pos c1'] at hq
    dsimp only at hq
    exact r_opens h0 (by omega) hin (TT_g (by unfold isG; decide) c1') (fun _ μ1 f1 b1 => k_X7_atom5_15 (hend _ μ1 (hq μ1 _ ⟨f1, b1⟩))) (fun h5 => by omega)

theorem rl_term4 (h0 : ∀ k, nt ≤ k → TT f z k = 0) (hnt : nt ≤ 160) (hD : 1 ≤ D) (hpg : pg nt p) (hp : rrS sc f z fr nm nt D 149 [none] o nd p) : rrS sc f z fr nm nt (D + 1) 150 [none] o (nd + 1) (q_chain (TT f z) o_mul p) := by
  intro d μ Q k hd hin hq
  obtain ⟨d1, rfl⟩ : ∃ d1, d = d1 + 2 := ⟨d - 2, by omega⟩
  unfold q_chain at hq
  have bl : ∀ (k1 : Nat) (v : Int32) (μ1 : si_Mm), fx Jp A0 μ μ1 → BD f z k1 μ1 → (∀ μ' v, RO f z nm o (nd + 1) (k1, none) μ μ' v → Q (some (.inl v)) μ') → si_W sc (d1 + 2) 150 5 [some (.inr (.inr (7, 0))), some (.inl v)] [] μ1 Q := fun k1 v μ1 f1 b1 hq => k_X7_term4_5 (b_isSign b1 (k_X7_term4_11 ⟨fun _ => hq μ1 v ⟨f1, b1⟩, fun c => absurd rfl c⟩))
  have lp : ∀ (m k1 : Nat) (cs : List Int32) (v : Int32) (μ1 : si_Mm), nt < k1 + m → fx Jp A0 μ μ1 → IN f z fr nm o nt k1 μ1 → Gd nm cs v (nd + 1) → (∀ μ' v, RO f z nm o (nd + 1) (q_lp (TT f z) o_mul p m k1 cs) μ μ' v → Q (some (.inl v)) μ') → si_W sc (d1 + 2) 150 5 [some (.inr (.inr (7, 0))), some (.inl v)] [] μ1 Q := by
    intro m
    induction m with
    | zero => intro k1 cs v μ1 hk f1 i1 g1 hq; have := i1.2.2.2.2; omega
    | succ m ih =>
      intro k1 cs v μ1 hk f1 i1 g1 hq
      unfold q_lp at hq
      refine k_X7_term4_5 (r_isSign (by unfold isG; decide) i1.2.1 (k_X7_term4_11 ⟨fun c => ?_, fun c => ?_⟩))
      · have c' := bi_0.mp c
        have e : o_mul (TT f z k1) = none := if_neg c'
        rw [e] at hq
        exact hq μ1 v ⟨f1, i1.2.1, i1.2.2.1, g1⟩
      · have c' := bi_n c
        have e : o_mul (TT f z k1) = some (-18) := if_pos c'
        rw [e] at hq
        dsimp only at hq
        refine r_nx h0 i1 (TT_g (by unfold isG; decide) c') fun μ2 f2 i2 => k_X7_term4_18 (hp (d1 + 1) μ2 _ (k1 + 1) (by omega) i2 fun μ3 w r3 => k_X7_term4_23 ?_)
        have f13 := (f1.tr f2).tr r3.1
        rcases hr : p (k1 + 1) with ⟨k2, _ | ds⟩
        · rw [hr] at r3 hq
          exact bl k2 _ μ3 f13 r3.2 hq
        · rw [hr] at r3 hq
          have hk2 := pg_s hpg i2.2.2.2.2 hr
          refine ih k2 _ _ μ3 (by omega) f13 ⟨i2.1.p r3.1, r3.2.1, r3.2.2.1, nm_p i2.2.2.2.1 r3.1, hk2.2.1⟩ ?_ hq
          have g := Gd_bin (cbin (-18) (by decide)) g1 r3.2.2.2 (Nat.le_refl _)
          rw [op18] at g; exact g
  refine k_X7_term4_0 (hp (d1 + 1) μ _ k (by omega) hin fun μ1 v r1 => k_X7_term4_4 ?_)
  rcases hr : p k with ⟨k1, _ | cs⟩
  · rw [hr] at r1 hq
    exact bl k1 v μ1 r1.1 r1.2 hq
  · rw [hr] at r1 hq
    have hk1 := pg_s hpg hin.2.2.2.2 hr
    exact lp 160 k1 cs v μ1 (by omega) r1.1 ⟨hin.1.p r1.1, r1.2.1, r1.2.2.1, nm_p hin.2.2.2.1 r1.1, hk1.2.1⟩ (r1.2.2.2.mo (by omega)) hq

theorem rl_added4 (h0 : ∀ k, nt ≤ k → TT f z k = 0) (hnt : nt ≤ 160) (hD : 1 ≤ D) (hpg : pg nt p) (hp : rrS sc f z fr nm nt D 150 [none] o nd p) : rrS sc f z fr nm nt (D + 1) 151 [none, none, none] o (nd + 1) (q_chain (TT f z) o_add p) := by
  intro d μ Q k hd hin hq
  obtain ⟨d1, rfl⟩ : ∃ d1, d = d1 + 2 := ⟨d - 2, by omega⟩
  unfold q_chain at hq
  have bl : ∀ (k1 : Nat) (v : Int32) (μ1 : si_Mm) (u2 u3 : Option si_AV), fx Jp A0 μ μ1 → BD f z k1 μ1 → (∀ μ' v, RO f z nm o (nd + 1) (k1, none) μ μ' v → Q (some (.inl v)) μ') → si_W sc (d1 + 2) 151 5 [some (.inr (.inr (7, 0))), some (.inl v), u2, u3] [] μ1 Q := fun k1 v μ1 u2 u3 f1 b1 hq => k_X7_added4_5 (b_isSign b1 (k_X7_added4_11 ⟨fun c => absurd rfl c, fun _ => b_isSign b1 (k_X7_added4_20 ⟨fun _ => hq μ1 v ⟨f1, b1⟩, fun c => absurd rfl c⟩)⟩))
  have lp : ∀ (m k1 : Nat) (cs : List Int32) (v : Int32) (μ1 : si_Mm) (u2 u3 : Option si_AV), nt < k1 + m → fx Jp A0 μ μ1 → IN f z fr nm o nt k1 μ1 → Gd nm cs v (nd + 1) → (∀ μ' v, RO f z nm o (nd + 1) (q_lp (TT f z) o_add p m k1 cs) μ μ' v → Q (some (.inl v)) μ') → si_W sc (d1 + 2) 151 5 [some (.inr (.inr (7, 0))), some (.inl v), u2, u3] [] μ1 Q := by
    intro m
    induction m with
    | zero => intro k1 cs v μ1 u2 u3 hk f1 i1 g1 hq; have := i1.2.2.2.2; omega
    | succ m ih =>
      intro k1 cs v μ1 u2 u3 hk f1 i1 g1 hq
      unfold q_lp at hq
      have e43 : si_c64 7 = (43 : Int32).toInt64 := by decide +kernel
      have lg : isG (TT f z k1) → (lg_cmp μ1.2 (si_c64 7) = 0 ↔ TT f z k1 = 43) := by
        intro hg
        rcases i1.2.1.cs with q | q | q | q | q
        · rw [q.1] at hg; exact absurd hg (by unfold isG; decide)
        · exfalso
          have hr := isG_c hg
          rcases wc_r (wl f (lb f z (en f z k1)) (wE f z (lb f z (en f z k1)))) with w1 | ⟨w, hw, w1, _⟩
          · rw [q.2.2.2.2.1, w1, i_1] at hr; omega
          · have := cw_r w hw; rw [q.2.2.2.2.1, w1] at hr; omega
        · rw [q.1] at hg; exact absurd hg (by unfold isG; decide)
        · rw [lg_cmp_eq, q.2.2.2, e43, ← Int64.toInt_inj, Int32.toInt_toInt64, Int32.toInt_toInt64, i_eq]
        · rw [q.1] at hg; exact absurd hg (by unfold isG; decide)
      have go : ∀ (a2 c : Int32) (u3 : Option si_AV), (TT f z k1 ≠ 0 ∧ TT f z k1 ≠ 1) → o_add (TT f z k1) = some c → ((a2 = 0 ∧ c = -17) ∨ (a2 = 1 ∧ c = -16)) → si_W sc (d1 + 1) 136 0 [some (.inr (.inr (7, 0))), none, none] [] μ1 (fun rv μq => si_W sc (d1 + 2) 151 44 [some (.inr (.inr (7, 0))), some (.inl v), some (.inl a2), u3] (si_rt rv []) μq Q) := by
        intro a2 c u3 hT e ha
        rw [e] at hq
        dsimp only at hq
        refine r_nx h0 i1 hT fun μ2 f2 i2 => k_X7_added4_44 (hp (d1 + 1) μ2 _ (k1 + 1) (by omega) i2 fun μ3 w r3 => ?_)
        have f13 := (f1.tr f2).tr r3.1
        rcases hr : p (k1 + 1) with ⟨k2, _ | ds⟩
        · rw [hr] at r3 hq
          rcases ha with ⟨rfl, rfl⟩ | ⟨rfl, rfl⟩
          · exact k_X7_added4_48 ⟨fun _ => bl k2 _ μ3 _ _ f13 r3.2 hq, fun c => absurd rfl c⟩
          · exact k_X7_added4_48 ⟨fun c => absurd c (by decide), fun _ => bl k2 _ μ3 _ _ f13 r3.2 hq⟩
        · rw [hr] at r3 hq
          have hk2 := pg_s hpg i2.2.2.2.2 hr
          have i3 : IN f z fr nm o nt k2 μ3 := ⟨i2.1.p r3.1, r3.2.1, r3.2.2.1, nm_p i2.2.2.2.1 r3.1, hk2.2.1⟩
          rcases ha with ⟨rfl, rfl⟩ | ⟨rfl, rfl⟩
          · have g := Gd_bin (cbin (-17) (by decide)) g1 r3.2.2.2 (Nat.le_refl _)
            rw [op17] at g
            exact k_X7_added4_48 ⟨fun _ => ih k2 _ _ μ3 _ _ (by omega) f13 i3 g hq, fun c => absurd rfl c⟩
          · have g := Gd_bin (cbin (-16) (by decide)) g1 r3.2.2.2 (Nat.le_refl _)
            rw [op16] at g
            exact k_X7_added4_48 ⟨fun c => absurd c (by decide), fun _ => ih k2 _ _ μ3 _ _ (by omega) f13 i3 g hq⟩
      refine k_X7_added4_5 (r_isSign (by unfold isG; decide) i1.2.1 (k_X7_added4_11 ⟨fun c => ?_, fun c => r_isSign (by unfold isG; decide) i1.2.1 (k_X7_added4_20 ⟨fun c2 => ?_, fun c2 => ?_⟩)⟩))
      · have c' := bi_n c
        have hg : isG (TT f z k1) := by rw [c']; unfold isG; decide
        exact ⟨fun c3 => absurd ((lg hg).mpr c') c3, fun _ => go 1 (-16) u3 (TT_g (by unfold isG; decide) c') (if_pos c') (Or.inr ⟨rfl, rfl⟩)⟩
      · have e : o_add (TT f z k1) = none := by unfold o_add; rw [if_neg (bi_0.mp c), if_neg (bi_0.mp c2)]
        rw [e] at hq
        exact hq μ1 v ⟨f1, i1.2.1, i1.2.2.1, g1⟩
      · have c' := bi_n c2
        have hg : isG (TT f z k1) := by rw [c']; unfold isG; decide
        have e : o_add (TT f z k1) = some (-17) := by unfold o_add; rw [if_neg (bi_0.mp c), if_pos c']
        exact ⟨fun _ => go 0 (-17) u3 (TT_g (by unfold isG; decide) c') e (Or.inl ⟨rfl, rfl⟩), fun c3 => absurd ((lg hg).mp c3) (bi_0.mp c)⟩
  refine k_X7_added4_0 (hp (d1 + 1) μ _ k (by omega) hin fun μ1 v r1 => k_X7_added4_4 ?_)
  rcases hr : p k with ⟨k1, _ | cs⟩
  · rw [hr] at r1 hq
    exact bl k1 v μ1 _ _ r1.1 r1.2 hq
  · rw [hr] at r1 hq
    have hk1 := pg_s hpg hin.2.2.2.2 hr
    exact lp 160 k1 cs v μ1 _ _ (by omega) r1.1 ⟨hin.1.p r1.1, r1.2.1, r1.2.2.1, nm_p hin.2.2.2.1 r1.1, hk1.2.1⟩ (r1.2.2.2.mo (by omega)) hq

set_option maxHeartbeats 1000000 in
theorem rl_not4 {pN : PF} {dN : Nat} (hdN : dN ≤ nd + 1) (hN : rrS sc f z fr nm nt D 146 [none, none, none] 5 dN pN) (h0 : ∀ k, nt ≤ k → TT f z k = 0) (hD : 5 ≤ D) (hpg : pg nt p) (hp : rrS sc f z fr nm nt D 151 [none, none, none] 4 nd p) : rrS sc f z fr nm nt (D + 1) 152 [none, none, none] 4 (nd + 1) (q_not (TT f z) (some pN) p) := by
  intro d μ Q k hd hin hq
  obtain ⟨d1, rfl⟩ : ∃ d1, d = d1 + 3 := ⟨d - 3, by omega⟩
  unfold q_not at hq
  have e60 : si_c64 8 = (60 : Int32).toInt64 := by decide +kernel
  refine k_X7_not4_0 (r_isW (w := 5) (by decide) (by decide +kernel) hin.1 hin.2.1 (k_X7_not4_15 ⟨fun c => ?_, fun c => ?_⟩))
  · have c' : ¬ TT f z k = 206 := bi_0.mp c
    rw [if_neg c'] at hq
    refine hp (d1 + 2) μ _ k (by omega) hin fun μ1 v r1 => k_X7_not4_56 ?_
    rcases hr : p k with ⟨k1, _ | cs⟩
    · rw [hr] at r1 hq
      exact b_isSign r1.2 (k_X7_not4_63 ⟨fun q => absurd rfl q, fun _ => b_isSign r1.2 (k_X7_not4_72 ⟨fun q => absurd rfl q, fun _ => hq μ1 v ⟨r1.1, r1.2⟩⟩)⟩)
    · rw [hr] at r1 hq
      have hk1 := pg_s hpg hin.2.2.2.2 hr
      have i1 : IN f z fr nm 4 nt k1 μ1 := ⟨hin.1.p r1.1, r1.2.1, r1.2.2.1, nm_p hin.2.2.2.1 r1.1, hk1.2.1⟩
      unfold q_b at hq
      dsimp only at hq
      have lg : isG (TT f z k1) → (lg_cmp μ1.2 (si_c64 8) = 0 ↔ TT f z k1 = 60) := by
        intro hg
        rcases i1.2.1.cs with q | q | q | q | q
        · rw [q.1] at hg; exact absurd hg (by unfold isG; decide)
        · exfalso
          have hr := isG_c hg
          rcases wc_r (wl f (lb f z (en f z k1)) (wE f z (lb f z (en f z k1)))) with w1 | ⟨w, hw, w1, _⟩
          · rw [q.2.2.2.2.1, w1, i_1] at hr; omega
          · have := cw_r w hw; rw [q.2.2.2.2.1, w1] at hr; omega
        · rw [q.1] at hg; exact absurd hg (by unfold isG; decide)
        · rw [lg_cmp_eq, q.2.2.2, e60, ← Int64.toInt_inj, Int32.toInt_toInt64, Int32.toInt_toInt64, i_eq]
        · rw [q.1] at hg; exact absurd hg (by unfold isG; decide)
      have go : ∀ (a2 c : Int32) (u3 : Option si_AV), (TT f z k1 ≠ 0 ∧ TT f z k1 ≠ 1) → ((a2 = 0 ∧ c = -15) ∨ (a2 = 1 ∧ c = -14)) → (∀ μ' v, RO f z nm 4 (nd + 1) (q_b (p (k1 + 1)) fun k2 ds => (k2, some (cs ++ (ds ++ [c])))) μ μ' v → Q (some (.inl v)) μ') → si_W sc (d1 + 2) 136 0 [some (.inr (.inr (7, 0))), none, none] [] μ1 (fun rv μq => si_W sc (d1 + 3) 152 98 [some (.inr (.inr (7, 0))), some (.inl v), some (.inl a2), u3] (si_rt rv []) μq Q) := by
        intro a2 c u3 hT ha hq
        refine r_nx h0 i1 hT fun μ2 f2 i2 => k_X7_not4_98 (hp (d1 + 2) μ2 _ (k1 + 1) (by omega) i2 fun μ3 w r3 => ?_)
        have f13 := (r1.1.tr f2).tr r3.1
        have key : ∀ v' : Int32, v' = ev_op c v w → Q (some (.inl v')) μ3 := by
          intro v' hv
          rcases hr : p (k1 + 1) with ⟨k2, _ | ds⟩
          · rw [hr] at r3 hq
            exact hq μ3 v' ⟨f13, r3.2⟩
          · rw [hr] at r3 hq
            refine hq μ3 v' ⟨f13, r3.2.1, r3.2.2.1, ?_⟩
            rw [hv]
            exact Gd_bin (cbin c (by rcases ha with ⟨_, rfl⟩ | ⟨_, rfl⟩ <;> decide)) (r1.2.2.2.mo (by omega)) r3.2.2.2 (Nat.le_refl _)
        rcases ha with ⟨rfl, rfl⟩ | ⟨rfl, rfl⟩
        · rw [op15] at key
          exact k_X7_not4_102 ⟨fun _ => ⟨fun q => key 0 (bi_f q).symm, fun q => key 1 (bi_t q).symm⟩, fun q => absurd rfl q⟩
        · rw [op14] at key
          exact k_X7_not4_102 ⟨fun q => absurd q (by decide), fun _ => ⟨fun q => key 0 (bi_f (i_nlt.mpr q)).symm, fun q => key 1 (bi_t (i_nle.mp q)).symm⟩⟩
      refine r_isSign (by unfold isG; decide) i1.2.1 (k_X7_not4_63 ⟨fun c2 => ?_, fun c2 => r_isSign (by unfold isG; decide) i1.2.1 (k_X7_not4_72 ⟨fun c3 => ?_, fun c3 => ?_⟩)⟩)
      · have c2' := bi_n c2
        rw [if_pos c2'] at hq
        have hg : isG (TT f z k1) := by rw [c2']; unfold isG; decide
        exact ⟨fun c4 => absurd ((lg hg).mpr c2') c4, fun _ => go 1 (-14) _ (TT_g (by unfold isG; decide) c2') (Or.inr ⟨rfl, rfl⟩) hq⟩
      · have c3' := bi_n c3
        rw [if_neg (bi_0.mp c2), if_pos c3'] at hq
        have hg : isG (TT f z k1) := by rw [c3']; unfold isG; decide
        exact ⟨fun _ => go 0 (-15) _ (TT_g (by unfold isG; decide) c3') (Or.inl ⟨rfl, rfl⟩) hq, fun c4 => absurd ((lg hg).mp c4) (bi_0.mp c2)⟩
      · rw [if_neg (bi_0.mp c2), if_neg (bi_0.mp c3)] at hq
        exact hq μ1 v ⟨r1.1, r1.2.1, r1.2.2.1, r1.2.2.2.mo (by omega)⟩
  · have c' : TT f z k = 206 := bi_n c
    rw [if_pos c'] at hq
    dsimp only at hq
    refine r_opens h0 (by omega) hin (TT_w (w := 5) (by decide) (bi_n c)) (fun h5 => by omega) (fun _ μ1 f1 i1 => k_X7_not4_22 ⟨fun _ => hN (d1 + 2) μ1 _ (k + 1) (by omega) i1 fun μ2 v r2 => ?_, fun q => absurd q (by decide)⟩)
    have fin : ∀ v' : Int32, v' = bi (v = 0) → Q (some (.inl v')) (si_ms μ2 7 0 27 (μ2.1 7 0 27 - 1)) := by
      intro v' hv
      have f12 := (f1.tr r2.1).tr (fx.p1 (v := μ2.1 7 0 27 - 1) (j := 27) (by omega))
      rcases hr : pN (k + 1) with ⟨k2, _ | ds⟩
      · rw [hr] at r2 hq
        exact hq _ v' ⟨f12, by rw [ms_eq, if_neg (by omega)]; exact r2.2.1, by rw [ms_eq, if_neg (by omega)]; exact r2.2.2⟩
      · rw [hr] at r2 hq
        refine hq _ v' ⟨f12, AT_27 r2.2.1, ?_, ?_⟩
        · have e := nI_sub1 (n := 4 + 1) (by omega) (by omega)
          rw [ms_eq, if_pos ⟨rfl, rfl, rfl⟩, r2.2.2.1]
          exact e
        · rw [hv]; exact (Gd_not r2.2.2.2).mo (by omega)
    exact k_X7_not4_31 ⟨fun q => fin 0 (bi_f q).symm, fun q => fin 1 (bi_t q).symm⟩

theorem rl_both4 (h0 : ∀ k, nt ≤ k → TT f z k = 0) (hnt : nt ≤ 160) (hD : 2 ≤ D) (hpg : pg nt p) (hp : rrS sc f z fr nm nt D 152 [none, none, none] o nd p) : rrS sc f z fr nm nt (D + 1) 153 [none, none] o (nd + 1) (q_chain (TT f z) o_and p) := by
  intro d μ Q k hd hin hq
  obtain ⟨d1, rfl⟩ : ∃ d1, d = d1 + 3 := ⟨d - 3, by omega⟩
  unfold q_chain at hq
  have bl : ∀ (k1 : Nat) (v : Int32) (μ1 : si_Mm) (u2 : Option si_AV), fx Jp A0 μ μ1 → BD f z k1 μ1 → (∀ μ' v, RO f z nm o (nd + 1) (k1, none) μ μ' v → Q (some (.inl v)) μ') → si_W sc (d1 + 3) 153 5 [some (.inr (.inr (7, 0))), some (.inl v), u2] [] μ1 Q := fun k1 v μ1 u2 f1 b1 hq => k_X7_both4_5 (b_isW b1 (k_X7_both4_20 ⟨fun _ => hq μ1 v ⟨f1, b1⟩, fun c => absurd rfl c⟩))
  have lp : ∀ (m k1 : Nat) (cs : List Int32) (v : Int32) (μ1 : si_Mm) (u2 : Option si_AV), nt < k1 + m → fx Jp A0 μ μ1 → IN f z fr nm o nt k1 μ1 → Gd nm cs v (nd + 1) → (∀ μ' v, RO f z nm o (nd + 1) (q_lp (TT f z) o_and p m k1 cs) μ μ' v → Q (some (.inl v)) μ') → si_W sc (d1 + 3) 153 5 [some (.inr (.inr (7, 0))), some (.inl v), u2] [] μ1 Q := by
    intro m
    induction m with
    | zero => intro k1 cs v μ1 u2 hk f1 i1 g1 hq; have := i1.2.2.2.2; omega
    | succ m ih =>
      intro k1 cs v μ1 u2 hk f1 i1 g1 hq
      unfold q_lp at hq
      refine k_X7_both4_5 (r_isW (w := 4) (by decide) (by decide +kernel) i1.1 i1.2.1 (k_X7_both4_20 ⟨fun c => ?_, fun c => ?_⟩))
      · have c' : ¬ TT f z k1 = 205 := bi_0.mp c
        have e : o_and (TT f z k1) = none := if_neg c'
        rw [e] at hq
        exact hq μ1 v ⟨f1, i1.2.1, i1.2.2.1, g1⟩
      · have c' : TT f z k1 = 205 := bi_n c
        have e : o_and (TT f z k1) = some (-12) := if_pos c'
        rw [e] at hq
        dsimp only at hq
        refine r_nx h0 i1 (TT_w (w := 4) (by decide) (bi_n c)) fun μ2 f2 i2 => k_X7_both4_27 (hp (d1 + 2) μ2 _ (k1 + 1) (by omega) i2 fun μ3 w r3 => ?_)
        have f13 := (f1.tr f2).tr r3.1
        have key : ∀ (v' : Int32) (u2 : Option si_AV), v' = ev_op (-12) v w → si_W sc (d1 + 3) 153 5 [some (.inr (.inr (7, 0))), some (.inl v'), u2] [] μ3 Q := by
          intro v' u2 hv
          rcases hr : p (k1 + 1) with ⟨k2, _ | ds⟩
          · rw [hr] at r3 hq
            exact bl k2 _ μ3 _ f13 r3.2 hq
          · rw [hr] at r3 hq
            have hk2 := pg_s hpg i2.2.2.2.2 hr
            refine ih k2 _ _ μ3 _ (by omega) f13 ⟨i2.1.p r3.1, r3.2.1, r3.2.2.1, nm_p i2.2.2.2.1 r3.1, hk2.2.1⟩ ?_ hq
            have g := Gd_bin (cbin (-12) (by decide)) g1 r3.2.2.2 (Nat.le_refl _)
            rw [hv]; exact g
        rw [op12] at key
        refine k_X7_both4_31 ⟨fun q1 => key 0 _ (bi_f (fun q => q.1 q1)).symm, fun q1 => ⟨fun q2 => key 0 _ (bi_f (fun q => q.2 q2)).symm, fun q2 => key 1 _ (bi_t ⟨q1, q2⟩).symm⟩⟩
  refine k_X7_both4_0 (hp (d1 + 2) μ _ k (by omega) hin fun μ1 v r1 => k_X7_both4_4 ?_)
  rcases hr : p k with ⟨k1, _ | cs⟩
  · rw [hr] at r1 hq
    exact bl k1 v μ1 _ r1.1 r1.2 hq
  · rw [hr] at r1 hq
    have hk1 := pg_s hpg hin.2.2.2.2 hr
    exact lp 160 k1 cs v μ1 _ (by omega) r1.1 ⟨hin.1.p r1.1, r1.2.1, r1.2.2.1, nm_p hin.2.2.2.1 r1.1, hk1.2.1⟩ (r1.2.2.2.mo (by omega)) hq

theorem rl_either4 (h0 : ∀ k, nt ≤ k → TT f z k = 0) (hnt : nt ≤ 160) (hD : 2 ≤ D) (hpg : pg nt p) (hp : rrS sc f z fr nm nt D 153 [none, none] o nd p) : rrS sc f z fr nm nt (D + 1) 154 [none, none] o (nd + 1) (q_chain (TT f z) o_or p) := by
  intro d μ Q k hd hin hq
  obtain ⟨d1, rfl⟩ : ∃ d1, d = d1 + 3 := ⟨d - 3, by omega⟩
  unfold q_chain at hq
  have bl : ∀ (k1 : Nat) (v : Int32) (μ1 : si_Mm) (u2 : Option si_AV), fx Jp A0 μ μ1 → BD f z k1 μ1 → (∀ μ' v, RO f z nm o (nd + 1) (k1, none) μ μ' v → Q (some (.inl v)) μ') → si_W sc (d1 + 3) 154 5 [some (.inr (.inr (7, 0))), some (.inl v), u2] [] μ1 Q := fun k1 v μ1 u2 f1 b1 hq => k_X7_either4_5 (b_isW b1 (k_X7_either4_19 ⟨fun _ => hq μ1 v ⟨f1, b1⟩, fun c => absurd rfl c⟩))
  have lp : ∀ (m k1 : Nat) (cs : List Int32) (v : Int32) (μ1 : si_Mm) (u2 : Option si_AV), nt < k1 + m → fx Jp A0 μ μ1 → IN f z fr nm o nt k1 μ1 → Gd nm cs v (nd + 1) → (∀ μ' v, RO f z nm o (nd + 1) (q_lp (TT f z) o_or p m k1 cs) μ μ' v → Q (some (.inl v)) μ') → si_W sc (d1 + 3) 154 5 [some (.inr (.inr (7, 0))), some (.inl v), u2] [] μ1 Q := by
    intro m
    induction m with
    | zero => intro k1 cs v μ1 u2 hk f1 i1 g1 hq; have := i1.2.2.2.2; omega
    | succ m ih =>
      intro k1 cs v μ1 u2 hk f1 i1 g1 hq
      unfold q_lp at hq
      refine k_X7_either4_5 (r_isW (w := 3) (by decide) (by decide +kernel) i1.1 i1.2.1 (k_X7_either4_19 ⟨fun c => ?_, fun c => ?_⟩))
      · have c' : ¬ TT f z k1 = 204 := bi_0.mp c
        have e : o_or (TT f z k1) = none := if_neg c'
        rw [e] at hq
        exact hq μ1 v ⟨f1, i1.2.1, i1.2.2.1, g1⟩
      · have c' : TT f z k1 = 204 := bi_n c
        have e : o_or (TT f z k1) = some (-11) := if_pos c'
        rw [e] at hq
        dsimp only at hq
        refine r_nx h0 i1 (TT_w (w := 3) (by decide) (bi_n c)) fun μ2 f2 i2 => k_X7_either4_26 (hp (d1 + 2) μ2 _ (k1 + 1) (by omega) i2 fun μ3 w r3 => ?_)
        have f13 := (f1.tr f2).tr r3.1
        have key : ∀ (v' : Int32) (u2 : Option si_AV), v' = ev_op (-11) v w → si_W sc (d1 + 3) 154 5 [some (.inr (.inr (7, 0))), some (.inl v'), u2] [] μ3 Q := by
          intro v' u2 hv
          rcases hr : p (k1 + 1) with ⟨k2, _ | ds⟩
          · rw [hr] at r3 hq
            exact bl k2 _ μ3 _ f13 r3.2 hq
          · rw [hr] at r3 hq
            have hk2 := pg_s hpg i2.2.2.2.2 hr
            refine ih k2 _ _ μ3 _ (by omega) f13 ⟨i2.1.p r3.1, r3.2.1, r3.2.2.1, nm_p i2.2.2.2.1 r3.1, hk2.2.1⟩ ?_ hq
            have g := Gd_bin (cbin (-11) (by decide)) g1 r3.2.2.2 (Nat.le_refl _)
            rw [hv]; exact g
        rw [op11] at key
        refine k_X7_either4_30 ⟨fun q1 => key 1 _ (bi_t (Or.inl q1)).symm, fun q1 => ⟨fun q2 => key 0 _ (bi_f (fun q => q.elim (fun a => a q1) (fun a => a q2))).symm, fun q2 => key 1 _ (bi_t (Or.inr q2)).symm⟩⟩
  refine k_X7_either4_0 (hp (d1 + 2) μ _ k (by omega) hin fun μ1 v r1 => k_X7_either4_4 ?_)
  rcases hr : p k with ⟨k1, _ | cs⟩
  · rw [hr] at r1 hq
    exact bl k1 v μ1 _ r1.1 r1.2 hq
  · rw [hr] at r1 hq
    have hk1 := pg_s hpg hin.2.2.2.2 hr
    exact lp 160 k1 cs v μ1 _ (by omega) r1.1 ⟨hin.1.p r1.1, r1.2.1, r1.2.2.1, nm_p hin.2.2.2.1 r1.1, hk1.2.1⟩ (r1.2.2.2.mo (by omega)) hq

set_option maxHeartbeats 1000000 in
theorem rl_atom4 {pA pE : PF} {dA : Nat} (hdA : dA ≤ nd) (hpE : pg nt pE) (hA : rrS sc f z fr nm nt D 143 [none] 5 dA pA) (hE : rrS sc f z fr nm nt D 148 [none, none] 5 nd pE) (h0 : ∀ k, nt ≤ k → TT f z k = 0) (hD : 3 ≤ D) (hnd : 1 ≤ nd) : rrS sc f z fr nm nt (D + 1) 149 [none] 4 nd (q_atom (TT f z) (WW f z) (some pA) (some pE)) := by
  intro d μ Q k hd hin hq
  obtain ⟨d1, rfl⟩ : ∃ d1, d = d1 + 4 := ⟨d - 4, by omega⟩
  unfold q_atom at hq
  have hend : ∀ (v : Int32) (μ1 : si_Mm), Q (some (.inl v)) μ1 → si_W sc (d1 + 4) 149 161 [some (.inr (.inr (7, 0))), some (.inl v)] [] μ1 Q := fun v μ1 h => k_X7_atom4_161 h
  refine k_X7_atom4_0 (r_isSign (by unfold isG; decide) hin.2.1 (k_X7_atom4_8 ⟨fun c1 => r_isSign (by unfold isG; decide) hin.2.1 (k_X7_atom4_43 ⟨fun c2 => ⟨fun c => absurd hin.2.1.1 c, fun _ => ⟨fun c3 => ?_, fun c3 => ?_⟩⟩, fun c2 => ?_⟩), fun c1 => ?_⟩))
  · rw [if_neg (bi_0.mp c1), if_neg (bi_0.mp c2)] at hq
    refine k_X7_atom4_123 ⟨fun c => absurd hin.2.1.1 c, fun _ => ⟨fun c4 => k_X7_atom4_157 ?_, fun c4 => r_name hin (fun w h6 h12 e => k_X7_atom4_142 ⟨fun c => absurd hin.2.1.1 c, fun _ => r_nx h0 hin (TT_w h12 e) fun μ1 f1 i1 => k_X7_atom4_154 (hend _ μ1 ?_)⟩) (fun hno μ1 f1 b1 => k_X7_atom4_142 ⟨fun _ => hend _ μ1 ?_, fun c => by rw [b1.1] at c; exact absurd c (by decide)⟩)⟩⟩
    · refine r_fail hin.2.1 fun μ1 f1 b1 _ => hend _ μ1 ?_
      have hT : ¬ TT f z k = 2 ∧ -1 < TT f z k := by
        rcases hin.2.1.cs with q | q | q | q | q
        · rw [q.1]; decide
        · exact absurd q.2.2.1 c4
        · exact absurd q.2.1 c3
        · have := isG_c q.1
          refine ⟨fun e => by rw [e, i_2] at this; omega, ?_⟩
          rw [i_lt]
          have e1 : (-1 : Int32).toInt = -1 := by decide
          omega
        · rw [q.1]; decide
      rw [if_neg hT.1, if_pos hT.2] at hq
      exact hq μ1 _ ⟨f1, b1⟩
    · obtain ⟨n1, n2, n3, n4⟩ := cw_nm w h6 h12
      have h2 : ¬ TT f z k = 2 := fun q => by rw [e] at q; rw [q] at n2; exact n2 (by decide)
      have h1 : ¬ -1 < TT f z k := by rw [e]; exact n4
      rw [if_neg h2, if_neg h1] at hq
      refine hq μ1 _ ⟨f1, i1.2.1, i1.2.2.1, ?_⟩
      rw [e]
      have g := Gd_name (nm := nm) n2 n3
      rw [n1] at g
      exact g.mo (by omega)
    · have hT : ¬ TT f z k = 2 ∧ -1 < TT f z k := by
        rcases hin.2.1.cs with q | q | q | q | q
        · rw [q.2] at c4; exact absurd c4 (by decide)
        · rw [q.2.2.2.2.1]
          rcases wc_r (wl f (lb f z (en f z k)) (wE f z (lb f z (en f z k)))) with w1 | ⟨w, hw, w1, _⟩
          · rw [w1]; decide
          · rw [w1]
            have h6 : w < 6 := Nat.lt_of_not_le fun q6 => hno w q6 hw (by rw [q.2.2.2.2.1, w1])
            have : ∀ w, w < 6 → ¬ cw w = 2 ∧ -1 < cw w := by decide +kernel
            exact this w h6
        · exact absurd q.2.1 c3
        · rw [q.2.1] at c4; exact absurd c4 (by decide)
        · rw [q.2] at c4; exact absurd c4 (by decide)
      rw [if_neg hT.1, if_pos hT.2] at hq
      exact hq μ1 _ ⟨f1, b1⟩
  · rw [if_neg (bi_0.mp c1), if_neg (bi_0.mp c2)] at hq
    have hT : TT f z k = 2 ∧ μ.2 = (WW f z k).toInt64 ∧ 0 ≤ (WW f z k).toInt := by
      rcases hin.2.1.cs with q | q | q | q | q
      · rw [q.2] at c3; exact absurd c3 (by decide)
      · rw [q.2.2.1] at c3; exact absurd c3 (by decide)
      · exact ⟨q.1, q.2.2.2.1, q.2.2.2.2⟩
      · rw [q.2.1] at c3; exact absurd c3 (by decide)
      · rw [q.2] at c3; exact absurd c3 (by decide)
    rw [if_pos hT.1] at hq
    have eW : Int64.toInt32 μ.2 = WW f z k := by rw [hT.2.1]; exact Int32.toInt32_toInt64 _
    rw [eW]
    refine r_nx h0 hin (by rw [hT.1]; decide) fun μ1 f1 i1 => k_X7_atom4_120 (hend _ μ1 (hq μ1 _ ⟨f1, i1.2.1, i1.2.2.1, (Gd_num (by rw [i_le, i_0]; exact hT.2.2)).mo (by omega)⟩))
  · have c2' := bi_n c2
    rw [if_neg (bi_0.mp c1), if_pos c2'] at hq
    dsimp only at hq
    refine r_opens h0 (by omega) hin (TT_g (by unfold isG; decide) c2') (fun h5 => by omega) (fun _ μ1 f1 i1 => k_X7_atom4_50 ⟨fun q => absurd q (by decide), fun _ => hE (d1 + 3) μ1 _ (k + 1) (by omega) i1 fun μ2 v r2 => k_X7_atom4_57 ?_⟩)
    have f12 := f1.tr r2.1
    rcases hr : pE (k + 1) with ⟨k2, _ | ds⟩
    · rw [hr] at r2 hq
      have f13 := f12.tr (fx.p1 (v := μ2.1 7 0 27 - 1) (j := 27) (by omega))
      have b3 : BD f z k2 (si_ms μ2 7 0 27 (μ2.1 7 0 27 - 1)) := ⟨by rw [ms_eq, if_neg (by omega)]; exact r2.2.1, by rw [ms_eq, if_neg (by omega)]; exact r2.2.2⟩
      exact b_isSign r2.2 (k_X7_atom4_64 ⟨fun q => absurd rfl q, fun _ => b_fail r2.2 (k_X7_atom4_71 ⟨fun _ => hend _ _ (hq _ v ⟨f13, b3⟩), fun q => by rw [b3.1] at q; exact absurd q (by decide)⟩)⟩)
    · rw [hr] at r2 hq
      have hk2 := pg_s hpE i1.2.2.2.2 hr
      unfold q_b at hq
      dsimp only at hq
      refine r_isSign (by unfold isG; decide) r2.2.1 (k_X7_atom4_64 ⟨fun c3 => k_X7_atom4_71 ⟨fun q => absurd (by rw [ms_eq, if_neg (by omega)]; exact r2.2.1.1) q, fun _ => ?_⟩, fun c3 => r_fail r2.2.1 fun μ3 f3 b3 _ => k_X7_atom4_71 ?_⟩)
      · have c3' := bi_n c3
        rw [if_pos c3'] at hq
        have f13 := f12.tr (fx.p1 (v := μ2.1 7 0 27 - 1) (j := 27) (by omega))
        have i3 : IN f z fr nm 4 nt k2 (si_ms μ2 7 0 27 (μ2.1 7 0 27 - 1)) := ⟨hin.1.p f13, AT_27 r2.2.1, by rw [ms_eq, if_pos ⟨rfl, rfl, rfl⟩, r2.2.2.1]; exact nI_sub1 (n := 4 + 1) (by omega) (by omega), nm_p hin.2.2.2.1 f13, hk2.2.1⟩
        exact r_nx h0 i3 (TT_g (by unfold isG; decide) c3') fun μ4 f4 i4 => k_X7_atom4_92 (hend _ μ4 (hq μ4 v ⟨f13.tr f4, i4.2.1, i4.2.2.1, r2.2.2.2.mo (by omega)⟩))
      · have c3' := bi_0.mp c3
        rw [if_neg c3'] at hq
        have f14 := (f12.tr f3).tr (fx.p1 (v := μ3.1 7 0 27 - 1) (j := 27) (by omega))
        have b4 : BD f z k2 (si_ms μ3 7 0 27 (μ3.1 7 0 27 - 1)) := ⟨by rw [ms_eq, if_neg (by omega)]; exact b3.1, by rw [ms_eq, if_neg (by omega)]; exact b3.2⟩
        exact ⟨fun _ => hend _ _ (hq _ v ⟨f14, b4⟩), fun q => by rw [b4.1] at q; exact absurd q (by decide)⟩
  · have c1' := bi_n c1
    rw [if_pos c1'] at hq
    dsimp only at hq
    refine r_opens h0 (by omega) hin (TT_g (by unfold isG; decide) c1') (fun h5 => by omega) (fun _ μ1 f1 i1 => k_X7_atom4_15 ⟨fun q => absurd q (by decide), fun _ => hA (d1 + 3) μ1 _ (k + 1) (by omega) i1 fun μ2 v r2 => k_X7_atom4_22 (hend _ _ ?_)⟩)
    have f13 := (f1.tr r2.1).tr (fx.p1 (v := μ2.1 7 0 27 - 1) (j := 27) (by omega))
    rcases hr : pA (k + 1) with ⟨k2, _ | ds⟩
    · rw [hr] at r2 hq
      exact hq _ _ ⟨f13, by rw [ms_eq, if_neg (by omega)]; exact r2.2.1, by rw [ms_eq, if_neg (by omega)]; exact r2.2.2⟩
    · rw [hr] at r2 hq
      refine hq _ _ ⟨f13, AT_27 r2.2.1, ?_, (Gd_neg r2.2.2.2).mo (by omega)⟩
      rw [ms_eq, if_pos ⟨rfl, rfl, rfl⟩, r2.2.2.1]
      exact nI_sub1 (n := 4 + 1) (by omega) (by omega)

theorem rl_term3 (h0 : ∀ k, nt ≤ k → TT f z k = 0) (hnt : nt ≤ 160) (hD : 1 ≤ D) (hpg : pg nt p) (hp : rrS sc f z fr nm nt D 155 [none] o nd p) : rrS sc f z fr nm nt (D + 1) 156 [none] o (nd + 1) (q_chain (TT f z) o_mul p) := by
  intro d μ Q k hd hin hq
  obtain ⟨d1, rfl⟩ : ∃ d1, d = d1 + 2 := ⟨d - 2, by omega⟩
  unfold q_chain at hq
  have bl : ∀ (k1 : Nat) (v : Int32) (μ1 : si_Mm), fx Jp A0 μ μ1 → BD f z k1 μ1 → (∀ μ' v, RO f z nm o (nd + 1) (k1, none) μ μ' v → Q (some (.inl v)) μ') → si_W sc (d1 + 2) 156 5 [some (.inr (.inr (7, 0))), some (.inl v)] [] μ1 Q := fun k1 v μ1 f1 b1 hq => k_X7_term3_5 (b_isSign b1 (k_X7_term3_11 ⟨fun _ => hq μ1 v ⟨f1, b1⟩, fun c => absurd rfl c⟩))
  have lp : ∀ (m k1 : Nat) (cs : List Int32) (v : Int32) (μ1 : si_Mm), nt < k1 + m → fx Jp A0 μ μ1 → IN f z fr nm o nt k1 μ1 → Gd nm cs v (nd + 1) → (∀ μ' v, RO f z nm o (nd + 1) (q_lp (TT f z) o_mul p m k1 cs) μ μ' v → Q (some (.inl v)) μ') → si_W sc (d1 + 2) 156 5 [some (.inr (.inr (7, 0))), some (.inl v)] [] μ1 Q := by
    intro m
    induction m with
    | zero => intro k1 cs v μ1 hk f1 i1 g1 hq; have := i1.2.2.2.2; omega
    | succ m ih =>
      intro k1 cs v μ1 hk f1 i1 g1 hq
      unfold q_lp at hq
      refine k_X7_term3_5 (r_isSign (by unfold isG; decide) i1.2.1 (k_X7_term3_11 ⟨fun c => ?_, fun c => ?_⟩))
      · have c' := bi_0.mp c
        have e : o_mul (TT f z k1) = none := if_neg c'
        rw [e] at hq
        exact hq μ1 v ⟨f1, i1.2.1, i1.2.2.1, g1⟩
      · have c' := bi_n c
        have e : o_mul (TT f z k1) = some (-18) := if_pos c'
        rw [e] at hq
        dsimp only at hq
        refine r_nx h0 i1 (TT_g (by unfold isG; decide) c') fun μ2 f2 i2 => k_X7_term3_18 (hp (d1 + 1) μ2 _ (k1 + 1) (by omega) i2 fun μ3 w r3 => k_X7_term3_23 ?_)
        have f13 := (f1.tr f2).tr r3.1
        rcases hr : p (k1 + 1) with ⟨k2, _ | ds⟩
        · rw [hr] at r3 hq
          exact bl k2 _ μ3 f13 r3.2 hq
        · rw [hr] at r3 hq
          have hk2 := pg_s hpg i2.2.2.2.2 hr
          refine ih k2 _ _ μ3 (by omega) f13 ⟨i2.1.p r3.1, r3.2.1, r3.2.2.1, nm_p i2.2.2.2.1 r3.1, hk2.2.1⟩ ?_ hq
          have g := Gd_bin (cbin (-18) (by decide)) g1 r3.2.2.2 (Nat.le_refl _)
          rw [op18] at g; exact g
  refine k_X7_term3_0 (hp (d1 + 1) μ _ k (by omega) hin fun μ1 v r1 => k_X7_term3_4 ?_)
  rcases hr : p k with ⟨k1, _ | cs⟩
  · rw [hr] at r1 hq
    exact bl k1 v μ1 r1.1 r1.2 hq
  · rw [hr] at r1 hq
    have hk1 := pg_s hpg hin.2.2.2.2 hr
    exact lp 160 k1 cs v μ1 (by omega) r1.1 ⟨hin.1.p r1.1, r1.2.1, r1.2.2.1, nm_p hin.2.2.2.1 r1.1, hk1.2.1⟩ (r1.2.2.2.mo (by omega)) hq

theorem rl_added3 (h0 : ∀ k, nt ≤ k → TT f z k = 0) (hnt : nt ≤ 160) (hD : 1 ≤ D) (hpg : pg nt p) (hp : rrS sc f z fr nm nt D 156 [none] o nd p) : rrS sc f z fr nm nt (D + 1) 157 [none, none, none] o (nd + 1) (q_chain (TT f z) o_add p) := by
  intro d μ Q k hd hin hq
  obtain ⟨d1, rfl⟩ : ∃ d1, d = d1 + 2 := ⟨d - 2, by omega⟩
  unfold q_chain at hq
  have bl : ∀ (k1 : Nat) (v : Int32) (μ1 : si_Mm) (u2 u3 : Option si_AV), fx Jp A0 μ μ1 → BD f z k1 μ1 → (∀ μ' v, RO f z nm o (nd + 1) (k1, none) μ μ' v → Q (some (.inl v)) μ') → si_W sc (d1 + 2) 157 5 [some (.inr (.inr (7, 0))), some (.inl v), u2, u3] [] μ1 Q := fun k1 v μ1 u2 u3 f1 b1 hq => k_X7_added3_5 (b_isSign b1 (k_X7_added3_11 ⟨fun c => absurd rfl c, fun _ => b_isSign b1 (k_X7_added3_20 ⟨fun _ => hq μ1 v ⟨f1, b1⟩, fun c => absurd rfl c⟩)⟩))
  have lp : ∀ (m k1 : Nat) (cs : List Int32) (v : Int32) (μ1 : si_Mm) (u2 u3 : Option si_AV), nt < k1 + m → fx Jp A0 μ μ1 → IN f z fr nm o nt k1 μ1 → Gd nm cs v (nd + 1) → (∀ μ' v, RO f z nm o (nd + 1) (q_lp (TT f z) o_add p m k1 cs) μ μ' v → Q (some (.inl v)) μ') → si_W sc (d1 + 2) 157 5 [some (.inr (.inr (7, 0))), some (.inl v), u2, u3] [] μ1 Q := by
    intro m
    induction m with
    | zero => intro k1 cs v μ1 u2 u3 hk f1 i1 g1 hq; have := i1.2.2.2.2; omega
    | succ m ih =>
      intro k1 cs v μ1 u2 u3 hk f1 i1 g1 hq
      unfold q_lp at hq
      have e43 : si_c64 7 = (43 : Int32).toInt64 := by decide +kernel
      have lg : isG (TT f z k1) → (lg_cmp μ1.2 (si_c64 7) = 0 ↔ TT f z k1 = 43) := by
        intro hg
        rcases i1.2.1.cs with q | q | q | q | q
        · rw [q.1] at hg; exact absurd hg (by unfold isG; decide)
        · exfalso
          have hr := isG_c hg
          rcases wc_r (wl f (lb f z (en f z k1)) (wE f z (lb f z (en f z k1)))) with w1 | ⟨w, hw, w1, _⟩
          · rw [q.2.2.2.2.1, w1, i_1] at hr; omega
          · have := cw_r w hw; rw [q.2.2.2.2.1, w1] at hr; omega
        · rw [q.1] at hg; exact absurd hg (by unfold isG; decide)
        · rw [lg_cmp_eq, q.2.2.2, e43, ← Int64.toInt_inj, Int32.toInt_toInt64, Int32.toInt_toInt64, i_eq]
        · rw [q.1] at hg; exact absurd hg (by unfold isG; decide)
      have go : ∀ (a2 c : Int32) (u3 : Option si_AV), (TT f z k1 ≠ 0 ∧ TT f z k1 ≠ 1) → o_add (TT f z k1) = some c → ((a2 = 0 ∧ c = -17) ∨ (a2 = 1 ∧ c = -16)) → si_W sc (d1 + 1) 136 0 [some (.inr (.inr (7, 0))), none, none] [] μ1 (fun rv μq => si_W sc (d1 + 2) 157 44 [some (.inr (.inr (7, 0))), some (.inl v), some (.inl a2), u3] (si_rt rv []) μq Q) := by
        intro a2 c u3 hT e ha
        rw [e] at hq
        dsimp only at hq
        refine r_nx h0 i1 hT fun μ2 f2 i2 => k_X7_added3_44 (hp (d1 + 1) μ2 _ (k1 + 1) (by omega) i2 fun μ3 w r3 => ?_)
        have f13 := (f1.tr f2).tr r3.1
        rcases hr : p (k1 + 1) with ⟨k2, _ | ds⟩
        · rw [hr] at r3 hq
          rcases ha with ⟨rfl, rfl⟩ | ⟨rfl, rfl⟩
          · exact k_X7_added3_48 ⟨fun _ => bl k2 _ μ3 _ _ f13 r3.2 hq, fun c => absurd rfl c⟩
          · exact k_X7_added3_48 ⟨fun c => absurd c (by decide), fun _ => bl k2 _ μ3 _ _ f13 r3.2 hq⟩
        · rw [hr] at r3 hq
          have hk2 := pg_s hpg i2.2.2.2.2 hr
          have i3 : IN f z fr nm o nt k2 μ3 := ⟨i2.1.p r3.1, r3.2.1, r3.2.2.1, nm_p i2.2.2.2.1 r3.1, hk2.2.1⟩
          rcases ha with ⟨rfl, rfl⟩ | ⟨rfl, rfl⟩
          · have g := Gd_bin (cbin (-17) (by decide)) g1 r3.2.2.2 (Nat.le_refl _)
            rw [op17] at g
            exact k_X7_added3_48 ⟨fun _ => ih k2 _ _ μ3 _ _ (by omega) f13 i3 g hq, fun c => absurd rfl c⟩
          · have g := Gd_bin (cbin (-16) (by decide)) g1 r3.2.2.2 (Nat.le_refl _)
            rw [op16] at g
            exact k_X7_added3_48 ⟨fun c => absurd c (by decide), fun _ => ih k2 _ _ μ3 _ _ (by omega) f13 i3 g hq⟩
      refine k_X7_added3_5 (r_isSign (by unfold isG; decide) i1.2.1 (k_X7_added3_11 ⟨fun c => ?_, fun c => r_isSign (by unfold isG; decide) i1.2.1 (k_X7_added3_20 ⟨fun c2 => ?_, fun c2 => ?_⟩)⟩))
      · have c' := bi_n c
        have hg : isG (TT f z k1) := by rw [c']; unfold isG; decide
        exact ⟨fun c3 => absurd ((lg hg).mpr c') c3, fun _ => go 1 (-16) u3 (TT_g (by unfold isG; decide) c') (if_pos c') (Or.inr ⟨rfl, rfl⟩)⟩
      · have e : o_add (TT f z k1) = none := by unfold o_add; rw [if_neg (bi_0.mp c), if_neg (bi_0.mp c2)]
        rw [e] at hq
        exact hq μ1 v ⟨f1, i1.2.1, i1.2.2.1, g1⟩
      · have c' := bi_n c2
        have hg : isG (TT f z k1) := by rw [c']; unfold isG; decide
        have e : o_add (TT f z k1) = some (-17) := by unfold o_add; rw [if_neg (bi_0.mp c), if_pos c']
        exact ⟨fun _ => go 0 (-17) u3 (TT_g (by unfold isG; decide) c') e (Or.inl ⟨rfl, rfl⟩), fun c3 => absurd ((lg hg).mp c3) (bi_0.mp c)⟩
  refine k_X7_added3_0 (hp (d1 + 1) μ _ k (by omega) hin fun μ1 v r1 => k_X7_added3_4 ?_)
  rcases hr : p k with ⟨k1, _ | cs⟩
  · rw [hr] at r1 hq
    exact bl k1 v μ1 _ _ r1.1 r1.2 hq
  · rw [hr] at r1 hq
    have hk1 := pg_s hpg hin.2.2.2.2 hr
    exact lp 160 k1 cs v μ1 _ _ (by omega) r1.1 ⟨hin.1.p r1.1, r1.2.1, r1.2.2.1, nm_p hin.2.2.2.1 r1.1, hk1.2.1⟩ (r1.2.2.2.mo (by omega)) hq

set_option maxHeartbeats 1000000 in
theorem rl_not3 {pN : PF} {dN : Nat} (hdN : dN ≤ nd + 1) (hN : rrS sc f z fr nm nt D 152 [none, none, none] 4 dN pN) (h0 : ∀ k, nt ≤ k → TT f z k = 0) (hD : 5 ≤ D) (hpg : pg nt p) (hp : rrS sc f z fr nm nt D 157 [none, none, none] 3 nd p) : rrS sc f z fr nm nt (D + 1) 158 [none, none, none] 3 (nd + 1) (q_not (TT f z) (some pN) p) := by
  intro d μ Q k hd hin hq
  obtain ⟨d1, rfl⟩ : ∃ d1, d = d1 + 3 := ⟨d - 3, by omega⟩
  unfold q_not at hq
  have e60 : si_c64 8 = (60 : Int32).toInt64 := by decide +kernel
  refine k_X7_not3_0 (r_isW (w := 5) (by decide) (by decide +kernel) hin.1 hin.2.1 (k_X7_not3_15 ⟨fun c => ?_, fun c => ?_⟩))
  · have c' : ¬ TT f z k = 206 := bi_0.mp c
    rw [if_neg c'] at hq
    refine hp (d1 + 2) μ _ k (by omega) hin fun μ1 v r1 => k_X7_not3_56 ?_
    rcases hr : p k with ⟨k1, _ | cs⟩
    · rw [hr] at r1 hq
      exact b_isSign r1.2 (k_X7_not3_63 ⟨fun q => absurd rfl q, fun _ => b_isSign r1.2 (k_X7_not3_72 ⟨fun q => absurd rfl q, fun _ => hq μ1 v ⟨r1.1, r1.2⟩⟩)⟩)
    · rw [hr] at r1 hq
      have hk1 := pg_s hpg hin.2.2.2.2 hr
      have i1 : IN f z fr nm 3 nt k1 μ1 := ⟨hin.1.p r1.1, r1.2.1, r1.2.2.1, nm_p hin.2.2.2.1 r1.1, hk1.2.1⟩
      unfold q_b at hq
      dsimp only at hq
      have lg : isG (TT f z k1) → (lg_cmp μ1.2 (si_c64 8) = 0 ↔ TT f z k1 = 60) := by
        intro hg
        rcases i1.2.1.cs with q | q | q | q | q
        · rw [q.1] at hg; exact absurd hg (by unfold isG; decide)
        · exfalso
          have hr := isG_c hg
          rcases wc_r (wl f (lb f z (en f z k1)) (wE f z (lb f z (en f z k1)))) with w1 | ⟨w, hw, w1, _⟩
          · rw [q.2.2.2.2.1, w1, i_1] at hr; omega
          · have := cw_r w hw; rw [q.2.2.2.2.1, w1] at hr; omega
        · rw [q.1] at hg; exact absurd hg (by unfold isG; decide)
        · rw [lg_cmp_eq, q.2.2.2, e60, ← Int64.toInt_inj, Int32.toInt_toInt64, Int32.toInt_toInt64, i_eq]
        · rw [q.1] at hg; exact absurd hg (by unfold isG; decide)
      have go : ∀ (a2 c : Int32) (u3 : Option si_AV), (TT f z k1 ≠ 0 ∧ TT f z k1 ≠ 1) → ((a2 = 0 ∧ c = -15) ∨ (a2 = 1 ∧ c = -14)) → (∀ μ' v, RO f z nm 3 (nd + 1) (q_b (p (k1 + 1)) fun k2 ds => (k2, some (cs ++ (ds ++ [c])))) μ μ' v → Q (some (.inl v)) μ') → si_W sc (d1 + 2) 136 0 [some (.inr (.inr (7, 0))), none, none] [] μ1 (fun rv μq => si_W sc (d1 + 3) 158 98 [some (.inr (.inr (7, 0))), some (.inl v), some (.inl a2), u3] (si_rt rv []) μq Q) := by
        intro a2 c u3 hT ha hq
        refine r_nx h0 i1 hT fun μ2 f2 i2 => k_X7_not3_98 (hp (d1 + 2) μ2 _ (k1 + 1) (by omega) i2 fun μ3 w r3 => ?_)
        have f13 := (r1.1.tr f2).tr r3.1
        have key : ∀ v' : Int32, v' = ev_op c v w → Q (some (.inl v')) μ3 := by
          intro v' hv
          rcases hr : p (k1 + 1) with ⟨k2, _ | ds⟩
          · rw [hr] at r3 hq
            exact hq μ3 v' ⟨f13, r3.2⟩
          · rw [hr] at r3 hq
            refine hq μ3 v' ⟨f13, r3.2.1, r3.2.2.1, ?_⟩
            rw [hv]
            exact Gd_bin (cbin c (by rcases ha with ⟨_, rfl⟩ | ⟨_, rfl⟩ <;> decide)) (r1.2.2.2.mo (by omega)) r3.2.2.2 (Nat.le_refl _)
        rcases ha with ⟨rfl, rfl⟩ | ⟨rfl, rfl⟩
        · rw [op15] at key
          exact k_X7_not3_102 ⟨fun _ => ⟨fun q => key 0 (bi_f q).symm, fun q => key 1 (bi_t q).symm⟩, fun q => absurd rfl q⟩
        · rw [op14] at key
          exact k_X7_not3_102 ⟨fun q => absurd q (by decide), fun _ => ⟨fun q => key 0 (bi_f (i_nlt.mpr q)).symm, fun q => key 1 (bi_t (i_nle.mp q)).symm⟩⟩
      refine r_isSign (by unfold isG; decide) i1.2.1 (k_X7_not3_63 ⟨fun c2 => ?_, fun c2 => r_isSign (by unfold isG; decide) i1.2.1 (k_X7_not3_72 ⟨fun c3 => ?_, fun c3 => ?_⟩)⟩)
      · have c2' := bi_n c2
        rw [if_pos c2'] at hq
        have hg : isG (TT f z k1) := by rw [c2']; unfold isG; decide
        exact ⟨fun c4 => absurd ((lg hg).mpr c2') c4, fun _ => go 1 (-14) _ (TT_g (by unfold isG; decide) c2') (Or.inr ⟨rfl, rfl⟩) hq⟩
      · have c3' := bi_n c3
        rw [if_neg (bi_0.mp c2), if_pos c3'] at hq
        have hg : isG (TT f z k1) := by rw [c3']; unfold isG; decide
        exact ⟨fun _ => go 0 (-15) _ (TT_g (by unfold isG; decide) c3') (Or.inl ⟨rfl, rfl⟩) hq, fun c4 => absurd ((lg hg).mp c4) (bi_0.mp c2)⟩
      · rw [if_neg (bi_0.mp c2), if_neg (bi_0.mp c3)] at hq
        exact hq μ1 v ⟨r1.1, r1.2.1, r1.2.2.1, r1.2.2.2.mo (by omega)⟩
  · have c' : TT f z k = 206 := bi_n c
    rw [if_pos c'] at hq
    dsimp only at hq
    refine r_opens h0 (by omega) hin (TT_w (w := 5) (by decide) (bi_n c)) (fun h5 => by omega) (fun _ μ1 f1 i1 => k_X7_not3_22 ⟨fun _ => hN (d1 + 2) μ1 _ (k + 1) (by omega) i1 fun μ2 v r2 => ?_, fun q => absurd q (by decide)⟩)
    have fin : ∀ v' : Int32, v' = bi (v = 0) → Q (some (.inl v')) (si_ms μ2 7 0 27 (μ2.1 7 0 27 - 1)) := by
      intro v' hv
      have f12 := (f1.tr r2.1).tr (fx.p1 (v := μ2.1 7 0 27 - 1) (j := 27) (by omega))
      rcases hr : pN (k + 1) with ⟨k2, _ | ds⟩
      · rw [hr] at r2 hq
        exact hq _ v' ⟨f12, by rw [ms_eq, if_neg (by omega)]; exact r2.2.1, by rw [ms_eq, if_neg (by omega)]; exact r2.2.2⟩
      · rw [hr] at r2 hq
        refine hq _ v' ⟨f12, AT_27 r2.2.1, ?_, ?_⟩
        · have e := nI_sub1 (n := 3 + 1) (by omega) (by omega)
          rw [ms_eq, if_pos ⟨rfl, rfl, rfl⟩, r2.2.2.1]
          exact e
        · rw [hv]; exact (Gd_not r2.2.2.2).mo (by omega)
    exact k_X7_not3_31 ⟨fun q => fin 0 (bi_f q).symm, fun q => fin 1 (bi_t q).symm⟩

theorem rl_both3 (h0 : ∀ k, nt ≤ k → TT f z k = 0) (hnt : nt ≤ 160) (hD : 2 ≤ D) (hpg : pg nt p) (hp : rrS sc f z fr nm nt D 158 [none, none, none] o nd p) : rrS sc f z fr nm nt (D + 1) 159 [none, none] o (nd + 1) (q_chain (TT f z) o_and p) := by
  intro d μ Q k hd hin hq
  obtain ⟨d1, rfl⟩ : ∃ d1, d = d1 + 3 := ⟨d - 3, by omega⟩
  unfold q_chain at hq
  have bl : ∀ (k1 : Nat) (v : Int32) (μ1 : si_Mm) (u2 : Option si_AV), fx Jp A0 μ μ1 → BD f z k1 μ1 → (∀ μ' v, RO f z nm o (nd + 1) (k1, none) μ μ' v → Q (some (.inl v)) μ') → si_W sc (d1 + 3) 159 5 [some (.inr (.inr (7, 0))), some (.inl v), u2] [] μ1 Q := fun k1 v μ1 u2 f1 b1 hq => k_X7_both3_5 (b_isW b1 (k_X7_both3_20 ⟨fun _ => hq μ1 v ⟨f1, b1⟩, fun c => absurd rfl c⟩))
  have lp : ∀ (m k1 : Nat) (cs : List Int32) (v : Int32) (μ1 : si_Mm) (u2 : Option si_AV), nt < k1 + m → fx Jp A0 μ μ1 → IN f z fr nm o nt k1 μ1 → Gd nm cs v (nd + 1) → (∀ μ' v, RO f z nm o (nd + 1) (q_lp (TT f z) o_and p m k1 cs) μ μ' v → Q (some (.inl v)) μ') → si_W sc (d1 + 3) 159 5 [some (.inr (.inr (7, 0))), some (.inl v), u2] [] μ1 Q := by
    intro m
    induction m with
    | zero => intro k1 cs v μ1 u2 hk f1 i1 g1 hq; have := i1.2.2.2.2; omega
    | succ m ih =>
      intro k1 cs v μ1 u2 hk f1 i1 g1 hq
      unfold q_lp at hq
      refine k_X7_both3_5 (r_isW (w := 4) (by decide) (by decide +kernel) i1.1 i1.2.1 (k_X7_both3_20 ⟨fun c => ?_, fun c => ?_⟩))
      · have c' : ¬ TT f z k1 = 205 := bi_0.mp c
        have e : o_and (TT f z k1) = none := if_neg c'
        rw [e] at hq
        exact hq μ1 v ⟨f1, i1.2.1, i1.2.2.1, g1⟩
      · have c' : TT f z k1 = 205 := bi_n c
        have e : o_and (TT f z k1) = some (-12) := if_pos c'
        rw [e] at hq
        dsimp only at hq
        refine r_nx h0 i1 (TT_w (w := 4) (by decide) (bi_n c)) fun μ2 f2 i2 => k_X7_both3_27 (hp (d1 + 2) μ2 _ (k1 + 1) (by omega) i2 fun μ3 w r3 => ?_)
        have f13 := (f1.tr f2).tr r3.1
        have key : ∀ (v' : Int32) (u2 : Option si_AV), v' = ev_op (-12) v w → si_W sc (d1 + 3) 159 5 [some (.inr (.inr (7, 0))), some (.inl v'), u2] [] μ3 Q := by
          intro v' u2 hv
          rcases hr : p (k1 + 1) with ⟨k2, _ | ds⟩
          · rw [hr] at r3 hq
            exact bl k2 _ μ3 _ f13 r3.2 hq
          · rw [hr] at r3 hq
            have hk2 := pg_s hpg i2.2.2.2.2 hr
            refine ih k2 _ _ μ3 _ (by omega) f13 ⟨i2.1.p r3.1, r3.2.1, r3.2.2.1, nm_p i2.2.2.2.1 r3.1, hk2.2.1⟩ ?_ hq
            have g := Gd_bin (cbin (-12) (by decide)) g1 r3.2.2.2 (Nat.le_refl _)
            rw [hv]; exact g
        rw [op12] at key
        refine k_X7_both3_31 ⟨fun q1 => key 0 _ (bi_f (fun q => q.1 q1)).symm, fun q1 => ⟨fun q2 => key 0 _ (bi_f (fun q => q.2 q2)).symm, fun q2 => key 1 _ (bi_t ⟨q1, q2⟩).symm⟩⟩
  refine k_X7_both3_0 (hp (d1 + 2) μ _ k (by omega) hin fun μ1 v r1 => k_X7_both3_4 ?_)
  rcases hr : p k with ⟨k1, _ | cs⟩
  · rw [hr] at r1 hq
    exact bl k1 v μ1 _ r1.1 r1.2 hq
  · rw [hr] at r1 hq
    have hk1 := pg_s hpg hin.2.2.2.2 hr
    exact lp 160 k1 cs v μ1 _ (by omega) r1.1 ⟨hin.1.p r1.1, r1.2.1, r1.2.2.1, nm_p hin.2.2.2.1 r1.1, hk1.2.1⟩ (r1.2.2.2.mo (by omega)) hq

theorem rl_either3 (h0 : ∀ k, nt ≤ k → TT f z k = 0) (hnt : nt ≤ 160) (hD : 2 ≤ D) (hpg : pg nt p) (hp : rrS sc f z fr nm nt D 159 [none, none] o nd p) : rrS sc f z fr nm nt (D + 1) 160 [none, none] o (nd + 1) (q_chain (TT f z) o_or p) := by
  intro d μ Q k hd hin hq
  obtain ⟨d1, rfl⟩ : ∃ d1, d = d1 + 3 := ⟨d - 3, by omega⟩
  unfold q_chain at hq
  have bl : ∀ (k1 : Nat) (v : Int32) (μ1 : si_Mm) (u2 : Option si_AV), fx Jp A0 μ μ1 → BD f z k1 μ1 → (∀ μ' v, RO f z nm o (nd + 1) (k1, none) μ μ' v → Q (some (.inl v)) μ') → si_W sc (d1 + 3) 160 5 [some (.inr (.inr (7, 0))), some (.inl v), u2] [] μ1 Q := fun k1 v μ1 u2 f1 b1 hq => k_X7_either3_5 (b_isW b1 (k_X7_either3_19 ⟨fun _ => hq μ1 v ⟨f1, b1⟩, fun c => absurd rfl c⟩))
  have lp : ∀ (m k1 : Nat) (cs : List Int32) (v : Int32) (μ1 : si_Mm) (u2 : Option si_AV), nt < k1 + m → fx Jp A0 μ μ1 → IN f z fr nm o nt k1 μ1 → Gd nm cs v (nd + 1) → (∀ μ' v, RO f z nm o (nd + 1) (q_lp (TT f z) o_or p m k1 cs) μ μ' v → Q (some (.inl v)) μ') → si_W sc (d1 + 3) 160 5 [some (.inr (.inr (7, 0))), some (.inl v), u2] [] μ1 Q := by
    intro m
    induction m with
    | zero => intro k1 cs v μ1 u2 hk f1 i1 g1 hq; have := i1.2.2.2.2; omega
    | succ m ih =>
      intro k1 cs v μ1 u2 hk f1 i1 g1 hq
      unfold q_lp at hq
      refine k_X7_either3_5 (r_isW (w := 3) (by decide) (by decide +kernel) i1.1 i1.2.1 (k_X7_either3_19 ⟨fun c => ?_, fun c => ?_⟩))
      · have c' : ¬ TT f z k1 = 204 := bi_0.mp c
        have e : o_or (TT f z k1) = none := if_neg c'
        rw [e] at hq
        exact hq μ1 v ⟨f1, i1.2.1, i1.2.2.1, g1⟩
      · have c' : TT f z k1 = 204 := bi_n c
        have e : o_or (TT f z k1) = some (-11) := if_pos c'
        rw [e] at hq
        dsimp only at hq
        refine r_nx h0 i1 (TT_w (w := 3) (by decide) (bi_n c)) fun μ2 f2 i2 => k_X7_either3_26 (hp (d1 + 2) μ2 _ (k1 + 1) (by omega) i2 fun μ3 w r3 => ?_)
        have f13 := (f1.tr f2).tr r3.1
        have key : ∀ (v' : Int32) (u2 : Option si_AV), v' = ev_op (-11) v w → si_W sc (d1 + 3) 160 5 [some (.inr (.inr (7, 0))), some (.inl v'), u2] [] μ3 Q := by
          intro v' u2 hv
          rcases hr : p (k1 + 1) with ⟨k2, _ | ds⟩
          · rw [hr] at r3 hq
            exact bl k2 _ μ3 _ f13 r3.2 hq
          · rw [hr] at r3 hq
            have hk2 := pg_s hpg i2.2.2.2.2 hr
            refine ih k2 _ _ μ3 _ (by omega) f13 ⟨i2.1.p r3.1, r3.2.1, r3.2.2.1, nm_p i2.2.2.2.1 r3.1, hk2.2.1⟩ ?_ hq
            have g := Gd_bin (cbin (-11) (by decide)) g1 r3.2.2.2 (Nat.le_refl _)
            rw [hv]; exact g
        rw [op11] at key
        refine k_X7_either3_30 ⟨fun q1 => key 1 _ (bi_t (Or.inl q1)).symm, fun q1 => ⟨fun q2 => key 0 _ (bi_f (fun q => q.elim (fun a => a q1) (fun a => a q2))).symm, fun q2 => key 1 _ (bi_t (Or.inr q2)).symm⟩⟩
  refine k_X7_either3_0 (hp (d1 + 2) μ _ k (by omega) hin fun μ1 v r1 => k_X7_either3_4 ?_)
  rcases hr : p k with ⟨k1, _ | cs⟩
  · rw [hr] at r1 hq
    exact bl k1 v μ1 _ r1.1 r1.2 hq
  · rw [hr] at r1 hq
    have hk1 := pg_s hpg hin.2.2.2.2 hr
    exact lp 160 k1 cs v μ1 _ (by omega) r1.1 ⟨hin.1.p r1.1, r1.2.1, r1.2.2.1, nm_p hin.2.2.2.1 r1.1, hk1.2.1⟩ (r1.2.2.2.mo (by omega)) hq

set_option maxHeartbeats 1000000 in
theorem rl_atom3 {pA pE : PF} {dA : Nat} (hdA : dA ≤ nd) (hpE : pg nt pE) (hA : rrS sc f z fr nm nt D 149 [none] 4 dA pA) (hE : rrS sc f z fr nm nt D 154 [none, none] 4 nd pE) (h0 : ∀ k, nt ≤ k → TT f z k = 0) (hD : 3 ≤ D) (hnd : 1 ≤ nd) : rrS sc f z fr nm nt (D + 1) 155 [none] 3 nd (q_atom (TT f z) (WW f z) (some pA) (some pE)) := by
  intro d μ Q k hd hin hq
  obtain ⟨d1, rfl⟩ : ∃ d1, d = d1 + 4 := ⟨d - 4, by omega⟩
  unfold q_atom at hq
  have hend : ∀ (v : Int32) (μ1 : si_Mm), Q (some (.inl v)) μ1 → si_W sc (d1 + 4) 155 161 [some (.inr (.inr (7, 0))), some (.inl v)] [] μ1 Q := fun v μ1 h => k_X7_atom3_161 h
  refine k_X7_atom3_0 (r_isSign (by unfold isG; decide) hin.2.1 (k_X7_atom3_8 ⟨fun c1 => r_isSign (by unfold isG; decide) hin.2.1 (k_X7_atom3_43 ⟨fun c2 => ⟨fun c => absurd hin.2.1.1 c, fun _ => ⟨fun c3 => ?_, fun c3 => ?_⟩⟩, fun c2 => ?_⟩), fun c1 => ?_⟩))
  · rw [if_neg (bi_0.mp c1), if_neg (bi_0.mp c2)] at hq
    refine k_X7_atom3_123 ⟨fun c => absurd hin.2.1.1 c, fun _ => ⟨fun c4 => k_X7_atom3_157 ?_, fun c4 => r_name hin (fun w h6 h12 e => k_X7_atom3_142 ⟨fun c => absurd hin.2.1.1 c, fun _ => r_nx h0 hin (TT_w h12 e) fun μ1 f1 i1 => k_X7_atom3_154 (hend _ μ1 ?_)⟩) (fun hno μ1 f1 b1 => k_X7_atom3_142 ⟨fun _ => hend _ μ1 ?_, fun c => by rw [b1.1] at c; exact absurd c (by decide)⟩)⟩⟩
    · refine r_fail hin.2.1 fun μ1 f1 b1 _ => hend _ μ1 ?_
      have hT : ¬ TT f z k = 2 ∧ -1 < TT f z k := by
        rcases hin.2.1.cs with q | q | q | q | q
        · rw [q.1]; decide
        · exact absurd q.2.2.1 c4
        · exact absurd q.2.1 c3
        · have := isG_c q.1
          refine ⟨fun e => by rw [e, i_2] at this; omega, ?_⟩
          rw [i_lt]
          have e1 : (-1 : Int32).toInt = -1 := by decide
          omega
        · rw [q.1]; decide
      rw [if_neg hT.1, if_pos hT.2] at hq
      exact hq μ1 _ ⟨f1, b1⟩
    · obtain ⟨n1, n2, n3, n4⟩ := cw_nm w h6 h12
      have h2 : ¬ TT f z k = 2 := fun q => by rw [e] at q; rw [q] at n2; exact n2 (by decide)
      have h1 : ¬ -1 < TT f z k := by rw [e]; exact n4
      rw [if_neg h2, if_neg h1] at hq
      refine hq μ1 _ ⟨f1, i1.2.1, i1.2.2.1, ?_⟩
      rw [e]
      have g := Gd_name (nm := nm) n2 n3
      rw [n1] at g
      exact g.mo (by omega)
    · have hT : ¬ TT f z k = 2 ∧ -1 < TT f z k := by
        rcases hin.2.1.cs with q | q | q | q | q
        · rw [q.2] at c4; exact absurd c4 (by decide)
        · rw [q.2.2.2.2.1]
          rcases wc_r (wl f (lb f z (en f z k)) (wE f z (lb f z (en f z k)))) with w1 | ⟨w, hw, w1, _⟩
          · rw [w1]; decide
          · rw [w1]
            have h6 : w < 6 := Nat.lt_of_not_le fun q6 => hno w q6 hw (by rw [q.2.2.2.2.1, w1])
            have : ∀ w, w < 6 → ¬ cw w = 2 ∧ -1 < cw w := by decide +kernel
            exact this w h6
        · exact absurd q.2.1 c3
        · rw [q.2.1] at c4; exact absurd c4 (by decide)
        · rw [q.2] at c4; exact absurd c4 (by decide)
      rw [if_neg hT.1, if_pos hT.2] at hq
      exact hq μ1 _ ⟨f1, b1⟩
  · rw [if_neg (bi_0.mp c1), if_neg (bi_0.mp c2)] at hq
    have hT : TT f z k = 2 ∧ μ.2 = (WW f z k).toInt64 ∧ 0 ≤ (WW f z k).toInt := by
      rcases hin.2.1.cs with q | q | q | q | q
      · rw [q.2] at c3; exact absurd c3 (by decide)
      · rw [q.2.2.1] at c3; exact absurd c3 (by decide)
      · exact ⟨q.1, q.2.2.2.1, q.2.2.2.2⟩
      · rw [q.2.1] at c3; exact absurd c3 (by decide)
      · rw [q.2] at c3; exact absurd c3 (by decide)
    rw [if_pos hT.1] at hq
    have eW : Int64.toInt32 μ.2 = WW f z k := by rw [hT.2.1]; exact Int32.toInt32_toInt64 _
    rw [eW]
    refine r_nx h0 hin (by rw [hT.1]; decide) fun μ1 f1 i1 => k_X7_atom3_120 (hend _ μ1 (hq μ1 _ ⟨f1, i1.2.1, i1.2.2.1, (Gd_num (by rw [i_le, i_0]; exact hT.2.2)).mo (by omega)⟩))
  · have c2' := bi_n c2
    rw [if_neg (bi_0.mp c1), if_pos c2'] at hq
    dsimp only at hq
    refine r_opens h0 (by omega) hin (TT_g (by unfold isG; decide) c2') (fun h5 => by omega) (fun _ μ1 f1 i1 => k_X7_atom3_50 ⟨fun q => absurd q (by decide), fun _ => hE (d1 + 3) μ1 _ (k + 1) (by omega) i1 fun μ2 v r2 => k_X7_atom3_57 ?_⟩)
    have f12 := f1.tr r2.1
    rcases hr : pE (k + 1) with ⟨k2, _ | ds⟩
    · rw [hr] at r2 hq
      have f13 := f12.tr (fx.p1 (v := μ2.1 7 0 27 - 1) (j := 27) (by omega))
      have b3 : BD f z k2 (si_ms μ2 7 0 27 (μ2.1 7 0 27 - 1)) := ⟨by rw [ms_eq, if_neg (by omega)]; exact r2.2.1, by rw [ms_eq, if_neg (by omega)]; exact r2.2.2⟩
      exact b_isSign r2.2 (k_X7_atom3_64 ⟨fun q => absurd rfl q, fun _ => b_fail r2.2 (k_X7_atom3_71 ⟨fun _ => hend _ _ (hq _ v ⟨f13, b3⟩), fun q => by rw [b3.1] at q; exact absurd q (by decide)⟩)⟩)
    · rw [hr] at r2 hq
      have hk2 := pg_s hpE i1.2.2.2.2 hr
      unfold q_b at hq
      dsimp only at hq
      refine r_isSign (by unfold isG; decide) r2.2.1 (k_X7_atom3_64 ⟨fun c3 => k_X7_atom3_71 ⟨fun q => absurd (by rw [ms_eq, if_neg (by omega)]; exact r2.2.1.1) q, fun _ => ?_⟩, fun c3 => r_fail r2.2.1 fun μ3 f3 b3 _ => k_X7_atom3_71 ?_⟩)
      · have c3' := bi_n c3
        rw [if_pos c3'] at hq
        have f13 := f12.tr (fx.p1 (v := μ2.1 7 0 27 - 1) (j := 27) (by omega))
        have i3 : IN f z fr nm 3 nt k2 (si_ms μ2 7 0 27 (μ2.1 7 0 27 - 1)) := ⟨hin.1.p f13, AT_27 r2.2.1, by rw [ms_eq, if_pos ⟨rfl, rfl, rfl⟩, r2.2.2.1]; exact nI_sub1 (n := 3 + 1) (by omega) (by omega), nm_p hin.2.2.2.1 f13, hk2.2.1⟩
        exact r_nx h0 i3 (TT_g (by unfold isG; decide) c3') fun μ4 f4 i4 => k_X7_atom3_92 (hend _ μ4 (hq μ4 v ⟨f13.tr f4, i4.2.1, i4.2.2.1, r2.2.2.2.mo (by omega)⟩))
      · have c3' := bi_0.mp c3
        rw [if_neg c3'] at hq
        have f14 := (f12.tr f3).tr (fx.p1 (v := μ3.1 7 0 27 - 1) (j := 27) (by omega))
        have b4 : BD f z k2 (si_ms μ3 7 0 27 (μ3.1 7 0 27 - 1)) := ⟨by rw [ms_eq, if_neg (by omega)]; exact b3.1, by rw [ms_eq, if_neg (by omega)]; exact b3.2⟩
        exact ⟨fun _ => hend _ _ (hq _ v ⟨f14, b4⟩), fun q => by rw [b4.1] at q; exact absurd q (by decide)⟩
  · have c1' := bi_n c1
    rw [if_pos c1'] at hq
    dsimp only at hq
    refine r_opens h0 (by omega) hin (TT_g (by unfold isG; decide) c1') (fun h5 => by omega) (fun _ μ1 f1 i1 => k_X7_atom3_15 ⟨fun q => absurd q (by decide), fun _ => hA (d1 + 3) μ1 _ (k + 1) (by omega) i1 fun μ2 v r2 => k_X7_atom3_22 (hend _ _ ?_)⟩)
    have f13 := (f1.tr r2.1).tr (fx.p1 (v := μ2.1 7 0 27 - 1) (j := 27) (by omega))
    rcases hr : pA (k + 1) with ⟨k2, _ | ds⟩
    · rw [hr] at r2 hq
      exact hq _ _ ⟨f13, by rw [ms_eq, if_neg (by omega)]; exact r2.2.1, by rw [ms_eq, if_neg (by omega)]; exact r2.2.2⟩
    · rw [hr] at r2 hq
      refine hq _ _ ⟨f13, AT_27 r2.2.1, ?_, (Gd_neg r2.2.2.2).mo (by omega)⟩
      rw [ms_eq, if_pos ⟨rfl, rfl, rfl⟩, r2.2.2.1]
      exact nI_sub1 (n := 3 + 1) (by omega) (by omega)

theorem rl_term2 (h0 : ∀ k, nt ≤ k → TT f z k = 0) (hnt : nt ≤ 160) (hD : 1 ≤ D) (hpg : pg nt p) (hp : rrS sc f z fr nm nt D 161 [none] o nd p) : rrS sc f z fr nm nt (D + 1) 162 [none] o (nd + 1) (q_chain (TT f z) o_mul p) := by
  intro d μ Q k hd hin hq
  obtain ⟨d1, rfl⟩ : ∃ d1, d = d1 + 2 := ⟨d - 2, by omega⟩
  unfold q_chain at hq
  have bl : ∀ (k1 : Nat) (v : Int32) (μ1 : si_Mm), fx Jp A0 μ μ1 → BD f z k1 μ1 → (∀ μ' v, RO f z nm o (nd + 1) (k1, none) μ μ' v → Q (some (.inl v)) μ') → si_W sc (d1 + 2) 162 5 [some (.inr (.inr (7, 0))), some (.inl v)] [] μ1 Q := fun k1 v μ1 f1 b1 hq => k_X7_term2_5 (b_isSign b1 (k_X7_term2_11 ⟨fun _ => hq μ1 v ⟨f1, b1⟩, fun c => absurd rfl c⟩))
  have lp : ∀ (m k1 : Nat) (cs : List Int32) (v : Int32) (μ1 : si_Mm), nt < k1 + m → fx Jp A0 μ μ1 → IN f z fr nm o nt k1 μ1 → Gd nm cs v (nd + 1) → (∀ μ' v, RO f z nm o (nd + 1) (q_lp (TT f z) o_mul p m k1 cs) μ μ' v → Q (some (.inl v)) μ') → si_W sc (d1 + 2) 162 5 [some (.inr (.inr (7, 0))), some (.inl v)] [] μ1 Q := by
    intro m
    induction m with
    | zero => intro k1 cs v μ1 hk f1 i1 g1 hq; have := i1.2.2.2.2; omega
    | succ m ih =>
      intro k1 cs v μ1 hk f1 i1 g1 hq
      unfold q_lp at hq
      refine k_X7_term2_5 (r_isSign (by unfold isG; decide) i1.2.1 (k_X7_term2_11 ⟨fun c => ?_, fun c => ?_⟩))
      · have c' := bi_0.mp c
        have e : o_mul (TT f z k1) = none := if_neg c'
        rw [e] at hq
        exact hq μ1 v ⟨f1, i1.2.1, i1.2.2.1, g1⟩
      · have c' := bi_n c
        have e : o_mul (TT f z k1) = some (-18) := if_pos c'
        rw [e] at hq
        dsimp only at hq
        refine r_nx h0 i1 (TT_g (by unfold isG; decide) c') fun μ2 f2 i2 => k_X7_term2_18 (hp (d1 + 1) μ2 _ (k1 + 1) (by omega) i2 fun μ3 w r3 => k_X7_term2_23 ?_)
        have f13 := (f1.tr f2).tr r3.1
        rcases hr : p (k1 + 1) with ⟨k2, _ | ds⟩
        · rw [hr] at r3 hq
          exact bl k2 _ μ3 f13 r3.2 hq
        · rw [hr] at r3 hq
          have hk2 := pg_s hpg i2.2.2.2.2 hr
          refine ih k2 _ _ μ3 (by omega) f13 ⟨i2.1.p r3.1, r3.2.1, r3.2.2.1, nm_p i2.2.2.2.1 r3.1, hk2.2.1⟩ ?_ hq
          have g := Gd_bin (cbin (-18) (by decide)) g1 r3.2.2.2 (Nat.le_refl _)
          rw [op18] at g; exact g
  refine k_X7_term2_0 (hp (d1 + 1) μ _ k (by omega) hin fun μ1 v r1 => k_X7_term2_4 ?_)
  rcases hr : p k with ⟨k1, _ | cs⟩
  · rw [hr] at r1 hq
    exact bl k1 v μ1 r1.1 r1.2 hq
  · rw [hr] at r1 hq
    have hk1 := pg_s hpg hin.2.2.2.2 hr
    exact lp 160 k1 cs v μ1 (by omega) r1.1 ⟨hin.1.p r1.1, r1.2.1, r1.2.2.1, nm_p hin.2.2.2.1 r1.1, hk1.2.1⟩ (r1.2.2.2.mo (by omega)) hq

theorem rl_added2 (h0 : ∀ k, nt ≤ k → TT f z k = 0) (hnt : nt ≤ 160) (hD : 1 ≤ D) (hpg : pg nt p) (hp : rrS sc f z fr nm nt D 162 [none] o nd p) : rrS sc f z fr nm nt (D + 1) 163 [none, none, none] o (nd + 1) (q_chain (TT f z) o_add p) := by
  intro d μ Q k hd hin hq
  obtain ⟨d1, rfl⟩ : ∃ d1, d = d1 + 2 := ⟨d - 2, by omega⟩
  unfold q_chain at hq
  have bl : ∀ (k1 : Nat) (v : Int32) (μ1 : si_Mm) (u2 u3 : Option si_AV), fx Jp A0 μ μ1 → BD f z k1 μ1 → (∀ μ' v, RO f z nm o (nd + 1) (k1, none) μ μ' v → Q (some (.inl v)) μ') → si_W sc (d1 + 2) 163 5 [some (.inr (.inr (7, 0))), some (.inl v), u2, u3] [] μ1 Q := fun k1 v μ1 u2 u3 f1 b1 hq => k_X7_added2_5 (b_isSign b1 (k_X7_added2_11 ⟨fun c => absurd rfl c, fun _ => b_isSign b1 (k_X7_added2_20 ⟨fun _ => hq μ1 v ⟨f1, b1⟩, fun c => absurd rfl c⟩)⟩))
  have lp : ∀ (m k1 : Nat) (cs : List Int32) (v : Int32) (μ1 : si_Mm) (u2 u3 : Option si_AV), nt < k1 + m → fx Jp A0 μ μ1 → IN f z fr nm o nt k1 μ1 → Gd nm cs v (nd + 1) → (∀ μ' v, RO f z nm o (nd + 1) (q_lp (TT f z) o_add p m k1 cs) μ μ' v → Q (some (.inl v)) μ') → si_W sc (d1 + 2) 163 5 [some (.inr (.inr (7, 0))), some (.inl v), u2, u3] [] μ1 Q := by
    intro m
    induction m with
    | zero => intro k1 cs v μ1 u2 u3 hk f1 i1 g1 hq; have := i1.2.2.2.2; omega
    | succ m ih =>
      intro k1 cs v μ1 u2 u3 hk f1 i1 g1 hq
      unfold q_lp at hq
      have e43 : si_c64 7 = (43 : Int32).toInt64 := by decide +kernel
      have lg : isG (TT f z k1) → (lg_cmp μ1.2 (si_c64 7) = 0 ↔ TT f z k1 = 43) := by
        intro hg
        rcases i1.2.1.cs with q | q | q | q | q
        · rw [q.1] at hg; exact absurd hg (by unfold isG; decide)
        · exfalso
          have hr := isG_c hg
          rcases wc_r (wl f (lb f z (en f z k1)) (wE f z (lb f z (en f z k1)))) with w1 | ⟨w, hw, w1, _⟩
          · rw [q.2.2.2.2.1, w1, i_1] at hr; omega
          · have := cw_r w hw; rw [q.2.2.2.2.1, w1] at hr; omega
        · rw [q.1] at hg; exact absurd hg (by unfold isG; decide)
        · rw [lg_cmp_eq, q.2.2.2, e43, ← Int64.toInt_inj, Int32.toInt_toInt64, Int32.toInt_toInt64, i_eq]
        · rw [q.1] at hg; exact absurd hg (by unfold isG; decide)
      have go : ∀ (a2 c : Int32) (u3 : Option si_AV), (TT f z k1 ≠ 0 ∧ TT f z k1 ≠ 1) → o_add (TT f z k1) = some c → ((a2 = 0 ∧ c = -17) ∨ (a2 = 1 ∧ c = -16)) → si_W sc (d1 + 1) 136 0 [some (.inr (.inr (7, 0))), none, none] [] μ1 (fun rv μq => si_W sc (d1 + 2) 163 44 [some (.inr (.inr (7, 0))), some (.inl v), some (.inl a2), u3] (si_rt rv []) μq Q) := by
        intro a2 c u3 hT e ha
        rw [e] at hq
        dsimp only at hq
        refine r_nx h0 i1 hT fun μ2 f2 i2 => k_X7_added2_44 (hp (d1 + 1) μ2 _ (k1 + 1) (by omega) i2 fun μ3 w r3 => ?_)
        have f13 := (f1.tr f2).tr r3.1
        rcases hr : p (k1 + 1) with ⟨k2, _ | ds⟩
        · rw [hr] at r3 hq
          rcases ha with ⟨rfl, rfl⟩ | ⟨rfl, rfl⟩
          · exact k_X7_added2_48 ⟨fun _ => bl k2 _ μ3 _ _ f13 r3.2 hq, fun c => absurd rfl c⟩
          · exact k_X7_added2_48 ⟨fun c => absurd c (by decide), fun _ => bl k2 _ μ3 _ _ f13 r3.2 hq⟩
        · rw [hr] at r3 hq
          have hk2 := pg_s hpg i2.2.2.2.2 hr
          have i3 : IN f z fr nm o nt k2 μ3 := ⟨i2.1.p r3.1, r3.2.1, r3.2.2.1, nm_p i2.2.2.2.1 r3.1, hk2.2.1⟩
          rcases ha with ⟨rfl, rfl⟩ | ⟨rfl, rfl⟩
          · have g := Gd_bin (cbin (-17) (by decide)) g1 r3.2.2.2 (Nat.le_refl _)
            rw [op17] at g
            exact k_X7_added2_48 ⟨fun _ => ih k2 _ _ μ3 _ _ (by omega) f13 i3 g hq, fun c => absurd rfl c⟩
          · have g := Gd_bin (cbin (-16) (by decide)) g1 r3.2.2.2 (Nat.le_refl _)
            rw [op16] at g
            exact k_X7_added2_48 ⟨fun c => absurd c (by decide), fun _ => ih k2 _ _ μ3 _ _ (by omega) f13 i3 g hq⟩
      refine k_X7_added2_5 (r_isSign (by unfold isG; decide) i1.2.1 (k_X7_added2_11 ⟨fun c => ?_, fun c => r_isSign (by unfold isG; decide) i1.2.1 (k_X7_added2_20 ⟨fun c2 => ?_, fun c2 => ?_⟩)⟩))
      · have c' := bi_n c
        have hg : isG (TT f z k1) := by rw [c']; unfold isG; decide
        exact ⟨fun c3 => absurd ((lg hg).mpr c') c3, fun _ => go 1 (-16) u3 (TT_g (by unfold isG; decide) c') (if_pos c') (Or.inr ⟨rfl, rfl⟩)⟩
      · have e : o_add (TT f z k1) = none := by unfold o_add; rw [if_neg (bi_0.mp c), if_neg (bi_0.mp c2)]
        rw [e] at hq
        exact hq μ1 v ⟨f1, i1.2.1, i1.2.2.1, g1⟩
      · have c' := bi_n c2
        have hg : isG (TT f z k1) := by rw [c']; unfold isG; decide
        have e : o_add (TT f z k1) = some (-17) := by unfold o_add; rw [if_neg (bi_0.mp c), if_pos c']
        exact ⟨fun _ => go 0 (-17) u3 (TT_g (by unfold isG; decide) c') e (Or.inl ⟨rfl, rfl⟩), fun c3 => absurd ((lg hg).mp c3) (bi_0.mp c)⟩
  refine k_X7_added2_0 (hp (d1 + 1) μ _ k (by omega) hin fun μ1 v r1 => k_X7_added2_4 ?_)
  rcases hr : p k with ⟨k1, _ | cs⟩
  · rw [hr] at r1 hq
    exact bl k1 v μ1 _ _ r1.1 r1.2 hq
  · rw [hr] at r1 hq
    have hk1 := pg_s hpg hin.2.2.2.2 hr
    exact lp 160 k1 cs v μ1 _ _ (by omega) r1.1 ⟨hin.1.p r1.1, r1.2.1, r1.2.2.1, nm_p hin.2.2.2.1 r1.1, hk1.2.1⟩ (r1.2.2.2.mo (by omega)) hq

set_option maxHeartbeats 1000000 in
theorem rl_not2 {pN : PF} {dN : Nat} (hdN : dN ≤ nd + 1) (hN : rrS sc f z fr nm nt D 158 [none, none, none] 3 dN pN) (h0 : ∀ k, nt ≤ k → TT f z k = 0) (hD : 5 ≤ D) (hpg : pg nt p) (hp : rrS sc f z fr nm nt D 163 [none, none, none] 2 nd p) : rrS sc f z fr nm nt (D + 1) 164 [none, none, none] 2 (nd + 1) (q_not (TT f z) (some pN) p) := by
  intro d μ Q k hd hin hq
  obtain ⟨d1, rfl⟩ : ∃ d1, d = d1 + 3 := ⟨d - 3, by omega⟩
  unfold q_not at hq
  have e60 : si_c64 8 = (60 : Int32).toInt64 := by decide +kernel
  refine k_X7_not2_0 (r_isW (w := 5) (by decide) (by decide +kernel) hin.1 hin.2.1 (k_X7_not2_15 ⟨fun c => ?_, fun c => ?_⟩))
  · have c' : ¬ TT f z k = 206 := bi_0.mp c
    rw [if_neg c'] at hq
    refine hp (d1 + 2) μ _ k (by omega) hin fun μ1 v r1 => k_X7_not2_56 ?_
    rcases hr : p k with ⟨k1, _ | cs⟩
    · rw [hr] at r1 hq
      exact b_isSign r1.2 (k_X7_not2_63 ⟨fun q => absurd rfl q, fun _ => b_isSign r1.2 (k_X7_not2_72 ⟨fun q => absurd rfl q, fun _ => hq μ1 v ⟨r1.1, r1.2⟩⟩)⟩)
    · rw [hr] at r1 hq
      have hk1 := pg_s hpg hin.2.2.2.2 hr
      have i1 : IN f z fr nm 2 nt k1 μ1 := ⟨hin.1.p r1.1, r1.2.1, r1.2.2.1, nm_p hin.2.2.2.1 r1.1, hk1.2.1⟩
      unfold q_b at hq
      dsimp only at hq
      have lg : isG (TT f z k1) → (lg_cmp μ1.2 (si_c64 8) = 0 ↔ TT f z k1 = 60) := by
        intro hg
        rcases i1.2.1.cs with q | q | q | q | q
        · rw [q.1] at hg; exact absurd hg (by unfold isG; decide)
        · exfalso
          have hr := isG_c hg
          rcases wc_r (wl f (lb f z (en f z k1)) (wE f z (lb f z (en f z k1)))) with w1 | ⟨w, hw, w1, _⟩
          · rw [q.2.2.2.2.1, w1, i_1] at hr; omega
          · have := cw_r w hw; rw [q.2.2.2.2.1, w1] at hr; omega
        · rw [q.1] at hg; exact absurd hg (by unfold isG; decide)
        · rw [lg_cmp_eq, q.2.2.2, e60, ← Int64.toInt_inj, Int32.toInt_toInt64, Int32.toInt_toInt64, i_eq]
        · rw [q.1] at hg; exact absurd hg (by unfold isG; decide)
      have go : ∀ (a2 c : Int32) (u3 : Option si_AV), (TT f z k1 ≠ 0 ∧ TT f z k1 ≠ 1) → ((a2 = 0 ∧ c = -15) ∨ (a2 = 1 ∧ c = -14)) → (∀ μ' v, RO f z nm 2 (nd + 1) (q_b (p (k1 + 1)) fun k2 ds => (k2, some (cs ++ (ds ++ [c])))) μ μ' v → Q (some (.inl v)) μ') → si_W sc (d1 + 2) 136 0 [some (.inr (.inr (7, 0))), none, none] [] μ1 (fun rv μq => si_W sc (d1 + 3) 164 98 [some (.inr (.inr (7, 0))), some (.inl v), some (.inl a2), u3] (si_rt rv []) μq Q) := by
        intro a2 c u3 hT ha hq
        refine r_nx h0 i1 hT fun μ2 f2 i2 => k_X7_not2_98 (hp (d1 + 2) μ2 _ (k1 + 1) (by omega) i2 fun μ3 w r3 => ?_)
        have f13 := (r1.1.tr f2).tr r3.1
        have key : ∀ v' : Int32, v' = ev_op c v w → Q (some (.inl v')) μ3 := by
          intro v' hv
          rcases hr : p (k1 + 1) with ⟨k2, _ | ds⟩
          · rw [hr] at r3 hq
            exact hq μ3 v' ⟨f13, r3.2⟩
          · rw [hr] at r3 hq
            refine hq μ3 v' ⟨f13, r3.2.1, r3.2.2.1, ?_⟩
            rw [hv]
            exact Gd_bin (cbin c (by rcases ha with ⟨_, rfl⟩ | ⟨_, rfl⟩ <;> decide)) (r1.2.2.2.mo (by omega)) r3.2.2.2 (Nat.le_refl _)
        rcases ha with ⟨rfl, rfl⟩ | ⟨rfl, rfl⟩
        · rw [op15] at key
          exact k_X7_not2_102 ⟨fun _ => ⟨fun q => key 0 (bi_f q).symm, fun q => key 1 (bi_t q).symm⟩, fun q => absurd rfl q⟩
        · rw [op14] at key
          exact k_X7_not2_102 ⟨fun q => absurd q (by decide), fun _ => ⟨fun q => key 0 (bi_f (i_nlt.mpr q)).symm, fun q => key 1 (bi_t (i_nle.mp q)).symm⟩⟩
      refine r_isSign (by unfold isG; decide) i1.2.1 (k_X7_not2_63 ⟨fun c2 => ?_, fun c2 => r_isSign (by unfold isG; decide) i1.2.1 (k_X7_not2_72 ⟨fun c3 => ?_, fun c3 => ?_⟩)⟩)
      · have c2' := bi_n c2
        rw [if_pos c2'] at hq
        have hg : isG (TT f z k1) := by rw [c2']; unfold isG; decide
        exact ⟨fun c4 => absurd ((lg hg).mpr c2') c4, fun _ => go 1 (-14) _ (TT_g (by unfold isG; decide) c2') (Or.inr ⟨rfl, rfl⟩) hq⟩
      · have c3' := bi_n c3
        rw [if_neg (bi_0.mp c2), if_pos c3'] at hq
        have hg : isG (TT f z k1) := by rw [c3']; unfold isG; decide
        exact ⟨fun _ => go 0 (-15) _ (TT_g (by unfold isG; decide) c3') (Or.inl ⟨rfl, rfl⟩) hq, fun c4 => absurd ((lg hg).mp c4) (bi_0.mp c2)⟩
      · rw [if_neg (bi_0.mp c2), if_neg (bi_0.mp c3)] at hq
        exact hq μ1 v ⟨r1.1, r1.2.1, r1.2.2.1, r1.2.2.2.mo (by omega)⟩
  · have c' : TT f z k = 206 := bi_n c
    rw [if_pos c'] at hq
    dsimp only at hq
    refine r_opens h0 (by omega) hin (TT_w (w := 5) (by decide) (bi_n c)) (fun h5 => by omega) (fun _ μ1 f1 i1 => k_X7_not2_22 ⟨fun _ => hN (d1 + 2) μ1 _ (k + 1) (by omega) i1 fun μ2 v r2 => ?_, fun q => absurd q (by decide)⟩)
    have fin : ∀ v' : Int32, v' = bi (v = 0) → Q (some (.inl v')) (si_ms μ2 7 0 27 (μ2.1 7 0 27 - 1)) := by
      intro v' hv
      have f12 := (f1.tr r2.1).tr (fx.p1 (v := μ2.1 7 0 27 - 1) (j := 27) (by omega))
      rcases hr : pN (k + 1) with ⟨k2, _ | ds⟩
      · rw [hr] at r2 hq
        exact hq _ v' ⟨f12, by rw [ms_eq, if_neg (by omega)]; exact r2.2.1, by rw [ms_eq, if_neg (by omega)]; exact r2.2.2⟩
      · rw [hr] at r2 hq
        refine hq _ v' ⟨f12, AT_27 r2.2.1, ?_, ?_⟩
        · have e := nI_sub1 (n := 2 + 1) (by omega) (by omega)
          rw [ms_eq, if_pos ⟨rfl, rfl, rfl⟩, r2.2.2.1]
          exact e
        · rw [hv]; exact (Gd_not r2.2.2.2).mo (by omega)
    exact k_X7_not2_31 ⟨fun q => fin 0 (bi_f q).symm, fun q => fin 1 (bi_t q).symm⟩

theorem rl_both2 (h0 : ∀ k, nt ≤ k → TT f z k = 0) (hnt : nt ≤ 160) (hD : 2 ≤ D) (hpg : pg nt p) (hp : rrS sc f z fr nm nt D 164 [none, none, none] o nd p) : rrS sc f z fr nm nt (D + 1) 165 [none, none] o (nd + 1) (q_chain (TT f z) o_and p) := by
  intro d μ Q k hd hin hq
  obtain ⟨d1, rfl⟩ : ∃ d1, d = d1 + 3 := ⟨d - 3, by omega⟩
  unfold q_chain at hq
  have bl : ∀ (k1 : Nat) (v : Int32) (μ1 : si_Mm) (u2 : Option si_AV), fx Jp A0 μ μ1 → BD f z k1 μ1 → (∀ μ' v, RO f z nm o (nd + 1) (k1, none) μ μ' v → Q (some (.inl v)) μ') → si_W sc (d1 + 3) 165 5 [some (.inr (.inr (7, 0))), some (.inl v), u2] [] μ1 Q := fun k1 v μ1 u2 f1 b1 hq => k_X7_both2_5 (b_isW b1 (k_X7_both2_20 ⟨fun _ => hq μ1 v ⟨f1, b1⟩, fun c => absurd rfl c⟩))
  have lp : ∀ (m k1 : Nat) (cs : List Int32) (v : Int32) (μ1 : si_Mm) (u2 : Option si_AV), nt < k1 + m → fx Jp A0 μ μ1 → IN f z fr nm o nt k1 μ1 → Gd nm cs v (nd + 1) → (∀ μ' v, RO f z nm o (nd + 1) (q_lp (TT f z) o_and p m k1 cs) μ μ' v → Q (some (.inl v)) μ') → si_W sc (d1 + 3) 165 5 [some (.inr (.inr (7, 0))), some (.inl v), u2] [] μ1 Q := by
    intro m
    induction m with
    | zero => intro k1 cs v μ1 u2 hk f1 i1 g1 hq; have := i1.2.2.2.2; omega
    | succ m ih =>
      intro k1 cs v μ1 u2 hk f1 i1 g1 hq
      unfold q_lp at hq
      refine k_X7_both2_5 (r_isW (w := 4) (by decide) (by decide +kernel) i1.1 i1.2.1 (k_X7_both2_20 ⟨fun c => ?_, fun c => ?_⟩))
      · have c' : ¬ TT f z k1 = 205 := bi_0.mp c
        have e : o_and (TT f z k1) = none := if_neg c'
        rw [e] at hq
        exact hq μ1 v ⟨f1, i1.2.1, i1.2.2.1, g1⟩
      · have c' : TT f z k1 = 205 := bi_n c
        have e : o_and (TT f z k1) = some (-12) := if_pos c'
        rw [e] at hq
        dsimp only at hq
        refine r_nx h0 i1 (TT_w (w := 4) (by decide) (bi_n c)) fun μ2 f2 i2 => k_X7_both2_27 (hp (d1 + 2) μ2 _ (k1 + 1) (by omega) i2 fun μ3 w r3 => ?_)
        have f13 := (f1.tr f2).tr r3.1
        have key : ∀ (v' : Int32) (u2 : Option si_AV), v' = ev_op (-12) v w → si_W sc (d1 + 3) 165 5 [some (.inr (.inr (7, 0))), some (.inl v'), u2] [] μ3 Q := by
          intro v' u2 hv
          rcases hr : p (k1 + 1) with ⟨k2, _ | ds⟩
          · rw [hr] at r3 hq
            exact bl k2 _ μ3 _ f13 r3.2 hq
          · rw [hr] at r3 hq
            have hk2 := pg_s hpg i2.2.2.2.2 hr
            refine ih k2 _ _ μ3 _ (by omega) f13 ⟨i2.1.p r3.1, r3.2.1, r3.2.2.1, nm_p i2.2.2.2.1 r3.1, hk2.2.1⟩ ?_ hq
            have g := Gd_bin (cbin (-12) (by decide)) g1 r3.2.2.2 (Nat.le_refl _)
            rw [hv]; exact g
        rw [op12] at key
        refine k_X7_both2_31 ⟨fun q1 => key 0 _ (bi_f (fun q => q.1 q1)).symm, fun q1 => ⟨fun q2 => key 0 _ (bi_f (fun q => q.2 q2)).symm, fun q2 => key 1 _ (bi_t ⟨q1, q2⟩).symm⟩⟩
  refine k_X7_both2_0 (hp (d1 + 2) μ _ k (by omega) hin fun μ1 v r1 => k_X7_both2_4 ?_)
  rcases hr : p k with ⟨k1, _ | cs⟩
  · rw [hr] at r1 hq
    exact bl k1 v μ1 _ r1.1 r1.2 hq
  · rw [hr] at r1 hq
    have hk1 := pg_s hpg hin.2.2.2.2 hr
    exact lp 160 k1 cs v μ1 _ (by omega) r1.1 ⟨hin.1.p r1.1, r1.2.1, r1.2.2.1, nm_p hin.2.2.2.1 r1.1, hk1.2.1⟩ (r1.2.2.2.mo (by omega)) hq

theorem rl_either2 (h0 : ∀ k, nt ≤ k → TT f z k = 0) (hnt : nt ≤ 160) (hD : 2 ≤ D) (hpg : pg nt p) (hp : rrS sc f z fr nm nt D 165 [none, none] o nd p) : rrS sc f z fr nm nt (D + 1) 166 [none, none] o (nd + 1) (q_chain (TT f z) o_or p) := by
  intro d μ Q k hd hin hq
  obtain ⟨d1, rfl⟩ : ∃ d1, d = d1 + 3 := ⟨d - 3, by omega⟩
  unfold q_chain at hq
  have bl : ∀ (k1 : Nat) (v : Int32) (μ1 : si_Mm) (u2 : Option si_AV), fx Jp A0 μ μ1 → BD f z k1 μ1 → (∀ μ' v, RO f z nm o (nd + 1) (k1, none) μ μ' v → Q (some (.inl v)) μ') → si_W sc (d1 + 3) 166 5 [some (.inr (.inr (7, 0))), some (.inl v), u2] [] μ1 Q := fun k1 v μ1 u2 f1 b1 hq => k_X7_either2_5 (b_isW b1 (k_X7_either2_19 ⟨fun _ => hq μ1 v ⟨f1, b1⟩, fun c => absurd rfl c⟩))
  have lp : ∀ (m k1 : Nat) (cs : List Int32) (v : Int32) (μ1 : si_Mm) (u2 : Option si_AV), nt < k1 + m → fx Jp A0 μ μ1 → IN f z fr nm o nt k1 μ1 → Gd nm cs v (nd + 1) → (∀ μ' v, RO f z nm o (nd + 1) (q_lp (TT f z) o_or p m k1 cs) μ μ' v → Q (some (.inl v)) μ') → si_W sc (d1 + 3) 166 5 [some (.inr (.inr (7, 0))), some (.inl v), u2] [] μ1 Q := by
    intro m
    induction m with
    | zero => intro k1 cs v μ1 u2 hk f1 i1 g1 hq; have := i1.2.2.2.2; omega
    | succ m ih =>
      intro k1 cs v μ1 u2 hk f1 i1 g1 hq
      unfold q_lp at hq
      refine k_X7_either2_5 (r_isW (w := 3) (by decide) (by decide +kernel) i1.1 i1.2.1 (k_X7_either2_19 ⟨fun c => ?_, fun c => ?_⟩))
      · have c' : ¬ TT f z k1 = 204 := bi_0.mp c
        have e : o_or (TT f z k1) = none := if_neg c'
        rw [e] at hq
        exact hq μ1 v ⟨f1, i1.2.1, i1.2.2.1, g1⟩
      · have c' : TT f z k1 = 204 := bi_n c
        have e : o_or (TT f z k1) = some (-11) := if_pos c'
        rw [e] at hq
        dsimp only at hq
        refine r_nx h0 i1 (TT_w (w := 3) (by decide) (bi_n c)) fun μ2 f2 i2 => k_X7_either2_26 (hp (d1 + 2) μ2 _ (k1 + 1) (by omega) i2 fun μ3 w r3 => ?_)
        have f13 := (f1.tr f2).tr r3.1
        have key : ∀ (v' : Int32) (u2 : Option si_AV), v' = ev_op (-11) v w → si_W sc (d1 + 3) 166 5 [some (.inr (.inr (7, 0))), some (.inl v'), u2] [] μ3 Q := by
          intro v' u2 hv
          rcases hr : p (k1 + 1) with ⟨k2, _ | ds⟩
          · rw [hr] at r3 hq
            exact bl k2 _ μ3 _ f13 r3.2 hq
          · rw [hr] at r3 hq
            have hk2 := pg_s hpg i2.2.2.2.2 hr
            refine ih k2 _ _ μ3 _ (by omega) f13 ⟨i2.1.p r3.1, r3.2.1, r3.2.2.1, nm_p i2.2.2.2.1 r3.1, hk2.2.1⟩ ?_ hq
            have g := Gd_bin (cbin (-11) (by decide)) g1 r3.2.2.2 (Nat.le_refl _)
            rw [hv]; exact g
        rw [op11] at key
        refine k_X7_either2_30 ⟨fun q1 => key 1 _ (bi_t (Or.inl q1)).symm, fun q1 => ⟨fun q2 => key 0 _ (bi_f (fun q => q.elim (fun a => a q1) (fun a => a q2))).symm, fun q2 => key 1 _ (bi_t (Or.inr q2)).symm⟩⟩
  refine k_X7_either2_0 (hp (d1 + 2) μ _ k (by omega) hin fun μ1 v r1 => k_X7_either2_4 ?_)
  rcases hr : p k with ⟨k1, _ | cs⟩
  · rw [hr] at r1 hq
    exact bl k1 v μ1 _ r1.1 r1.2 hq
  · rw [hr] at r1 hq
    have hk1 := pg_s hpg hin.2.2.2.2 hr
    exact lp 160 k1 cs v μ1 _ (by omega) r1.1 ⟨hin.1.p r1.1, r1.2.1, r1.2.2.1, nm_p hin.2.2.2.1 r1.1, hk1.2.1⟩ (r1.2.2.2.mo (by omega)) hq

set_option maxHeartbeats 1000000 in
theorem rl_atom2 {pA pE : PF} {dA : Nat} (hdA : dA ≤ nd) (hpE : pg nt pE) (hA : rrS sc f z fr nm nt D 155 [none] 3 dA pA) (hE : rrS sc f z fr nm nt D 160 [none, none] 3 nd pE) (h0 : ∀ k, nt ≤ k → TT f z k = 0) (hD : 3 ≤ D) (hnd : 1 ≤ nd) : rrS sc f z fr nm nt (D + 1) 161 [none] 2 nd (q_atom (TT f z) (WW f z) (some pA) (some pE)) := by
  intro d μ Q k hd hin hq
  obtain ⟨d1, rfl⟩ : ∃ d1, d = d1 + 4 := ⟨d - 4, by omega⟩
  unfold q_atom at hq
  have hend : ∀ (v : Int32) (μ1 : si_Mm), Q (some (.inl v)) μ1 → si_W sc (d1 + 4) 161 161 [some (.inr (.inr (7, 0))), some (.inl v)] [] μ1 Q := fun v μ1 h => k_X7_atom2_161 h
  refine k_X7_atom2_0 (r_isSign (by unfold isG; decide) hin.2.1 (k_X7_atom2_8 ⟨fun c1 => r_isSign (by unfold isG; decide) hin.2.1 (k_X7_atom2_43 ⟨fun c2 => ⟨fun c => absurd hin.2.1.1 c, fun _ => ⟨fun c3 => ?_, fun c3 => ?_⟩⟩, fun c2 => ?_⟩), fun c1 => ?_⟩))
  · rw [if_neg (bi_0.mp c1), if_neg (bi_0.mp c2)] at hq
    refine k_X7_atom2_123 ⟨fun c => absurd hin.2.1.1 c, fun _ => ⟨fun c4 => k_X7_atom2_157 ?_, fun c4 => r_name hin (fun w h6 h12 e => k_X7_atom2_142 ⟨fun c => absurd hin.2.1.1 c, fun _ => r_nx h0 hin (TT_w h12 e) fun μ1 f1 i1 => k_X7_atom2_154 (hend _ μ1 ?_)⟩) (fun hno μ1 f1 b1 => k_X7_atom2_142 ⟨fun _ => hend _ μ1 ?_, fun c => by rw [b1.1] at c; exact absurd c (by decide)⟩)⟩⟩
    · refine r_fail hin.2.1 fun μ1 f1 b1 _ => hend _ μ1 ?_
      have hT : ¬ TT f z k = 2 ∧ -1 < TT f z k := by
        rcases hin.2.1.cs with q | q | q | q | q
        · rw [q.1]; decide
        · exact absurd q.2.2.1 c4
        · exact absurd q.2.1 c3
        · have := isG_c q.1
          refine ⟨fun e => by rw [e, i_2] at this; omega, ?_⟩
          rw [i_lt]
          have e1 : (-1 : Int32).toInt = -1 := by decide
          omega
        · rw [q.1]; decide
      rw [if_neg hT.1, if_pos hT.2] at hq
      exact hq μ1 _ ⟨f1, b1⟩
    · obtain ⟨n1, n2, n3, n4⟩ := cw_nm w h6 h12
      have h2 : ¬ TT f z k = 2 := fun q => by rw [e] at q; rw [q] at n2; exact n2 (by decide)
      have h1 : ¬ -1 < TT f z k := by rw [e]; exact n4
      rw [if_neg h2, if_neg h1] at hq
      refine hq μ1 _ ⟨f1, i1.2.1, i1.2.2.1, ?_⟩
      rw [e]
      have g := Gd_name (nm := nm) n2 n3
      rw [n1] at g
      exact g.mo (by omega)
    · have hT : ¬ TT f z k = 2 ∧ -1 < TT f z k := by
        rcases hin.2.1.cs with q | q | q | q | q
        · rw [q.2] at c4; exact absurd c4 (by decide)
        · rw [q.2.2.2.2.1]
          rcases wc_r (wl f (lb f z (en f z k)) (wE f z (lb f z (en f z k)))) with w1 | ⟨w, hw, w1, _⟩
          · rw [w1]; decide
          · rw [w1]
            have h6 : w < 6 := Nat.lt_of_not_le fun q6 => hno w q6 hw (by rw [q.2.2.2.2.1, w1])
            have : ∀ w, w < 6 → ¬ cw w = 2 ∧ -1 < cw w := by decide +kernel
            exact this w h6
        · exact absurd q.2.1 c3
        · rw [q.2.1] at c4; exact absurd c4 (by decide)
        · rw [q.2] at c4; exact absurd c4 (by decide)
      rw [if_neg hT.1, if_pos hT.2] at hq
      exact hq μ1 _ ⟨f1, b1⟩
  · rw [if_neg (bi_0.mp c1), if_neg (bi_0.mp c2)] at hq
    have hT : TT f z k = 2 ∧ μ.2 = (WW f z k).toInt64 ∧ 0 ≤ (WW f z k).toInt := by
      rcases hin.2.1.cs with q | q | q | q | q
      · rw [q.2] at c3; exact absurd c3 (by decide)
      · rw [q.2.2.1] at c3; exact absurd c3 (by decide)
      · exact ⟨q.1, q.2.2.2.1, q.2.2.2.2⟩
      · rw [q.2.1] at c3; exact absurd c3 (by decide)
      · rw [q.2] at c3; exact absurd c3 (by decide)
    rw [if_pos hT.1] at hq
    have eW : Int64.toInt32 μ.2 = WW f z k := by rw [hT.2.1]; exact Int32.toInt32_toInt64 _
    rw [eW]
    refine r_nx h0 hin (by rw [hT.1]; decide) fun μ1 f1 i1 => k_X7_atom2_120 (hend _ μ1 (hq μ1 _ ⟨f1, i1.2.1, i1.2.2.1, (Gd_num (by rw [i_le, i_0]; exact hT.2.2)).mo (by omega)⟩))
  · have c2' := bi_n c2
    rw [if_neg (bi_0.mp c1), if_pos c2'] at hq
    dsimp only at hq
    refine r_opens h0 (by omega) hin (TT_g (by unfold isG; decide) c2') (fun h5 => by omega) (fun _ μ1 f1 i1 => k_X7_atom2_50 ⟨fun q => absurd q (by decide), fun _ => hE (d1 + 3) μ1 _ (k + 1) (by omega) i1 fun μ2 v r2 => k_X7_atom2_57 ?_⟩)
    have f12 := f1.tr r2.1
    rcases hr : pE (k + 1) with ⟨k2, _ | ds⟩
    · rw [hr] at r2 hq
      have f13 := f12.tr (fx.p1 (v := μ2.1 7 0 27 - 1) (j := 27) (by omega))
      have b3 : BD f z k2 (si_ms μ2 7 0 27 (μ2.1 7 0 27 - 1)) := ⟨by rw [ms_eq, if_neg (by omega)]; exact r2.2.1, by rw [ms_eq, if_neg (by omega)]; exact r2.2.2⟩
      exact b_isSign r2.2 (k_X7_atom2_64 ⟨fun q => absurd rfl q, fun _ => b_fail r2.2 (k_X7_atom2_71 ⟨fun _ => hend _ _ (hq _ v ⟨f13, b3⟩), fun q => by rw [b3.1] at q; exact absurd q (by decide)⟩)⟩)
    · rw [hr] at r2 hq
      have hk2 := pg_s hpE i1.2.2.2.2 hr
      unfold q_b at hq
      dsimp only at hq
      refine r_isSign (by unfold isG; decide) r2.2.1 (k_X7_atom2_64 ⟨fun c3 => k_X7_atom2_71 ⟨fun q => absurd (by rw [ms_eq, if_neg (by omega)]; exact r2.2.1.1) q, fun _ => ?_⟩, fun c3 => r_fail r2.2.1 fun μ3 f3 b3 _ => k_X7_atom2_71 ?_⟩)
      · have c3' := bi_n c3
        rw [if_pos c3'] at hq
        have f13 := f12.tr (fx.p1 (v := μ2.1 7 0 27 - 1) (j := 27) (by omega))
        have i3 : IN f z fr nm 2 nt k2 (si_ms μ2 7 0 27 (μ2.1 7 0 27 - 1)) := ⟨hin.1.p f13, AT_27 r2.2.1, by rw [ms_eq, if_pos ⟨rfl, rfl, rfl⟩, r2.2.2.1]; exact nI_sub1 (n := 2 + 1) (by omega) (by omega), nm_p hin.2.2.2.1 f13, hk2.2.1⟩
        exact r_nx h0 i3 (TT_g (by unfold isG; decide) c3') fun μ4 f4 i4 => k_X7_atom2_92 (hend _ μ4 (hq μ4 v ⟨f13.tr f4, i4.2.1, i4.2.2.1, r2.2.2.2.mo (by omega)⟩))
      · have c3' := bi_0.mp c3
        rw [if_neg c3'] at hq
        have f14 := (f12.tr f3).tr (fx.p1 (v := μ3.1 7 0 27 - 1) (j := 27) (by omega))
        have b4 : BD f z k2 (si_ms μ3 7 0 27 (μ3.1 7 0 27 - 1)) := ⟨by rw [ms_eq, if_neg (by omega)]; exact b3.1, by rw [ms_eq, if_neg (by omega)]; exact b3.2⟩
        exact ⟨fun _ => hend _ _ (hq _ v ⟨f14, b4⟩), fun q => by rw [b4.1] at q; exact absurd q (by decide)⟩
  · have c1' := bi_n c1
    rw [if_pos c1'] at hq
    dsimp only at hq
    refine r_opens h0 (by omega) hin (TT_g (by unfold isG; decide) c1') (fun h5 => by omega) (fun _ μ1 f1 i1 => k_X7_atom2_15 ⟨fun q => absurd q (by decide), fun _ => hA (d1 + 3) μ1 _ (k + 1) (by omega) i1 fun μ2 v r2 => k_X7_atom2_22 (hend _ _ ?_)⟩)
    have f13 := (f1.tr r2.1).tr (fx.p1 (v := μ2.1 7 0 27 - 1) (j := 27) (by omega))
    rcases hr : pA (k + 1) with ⟨k2, _ | ds⟩
    · rw [hr] at r2 hq
      exact hq _ _ ⟨f13, by rw [ms_eq, if_neg (by omega)]; exact r2.2.1, by rw [ms_eq, if_neg (by omega)]; exact r2.2.2⟩
    · rw [hr] at r2 hq
      refine hq _ _ ⟨f13, AT_27 r2.2.1, ?_, (Gd_neg r2.2.2.2).mo (by omega)⟩
      rw [ms_eq, if_pos ⟨rfl, rfl, rfl⟩, r2.2.2.1]
      exact nI_sub1 (n := 2 + 1) (by omega) (by omega)

theorem rl_term1 (h0 : ∀ k, nt ≤ k → TT f z k = 0) (hnt : nt ≤ 160) (hD : 1 ≤ D) (hpg : pg nt p) (hp : rrS sc f z fr nm nt D 167 [none] o nd p) : rrS sc f z fr nm nt (D + 1) 168 [none] o (nd + 1) (q_chain (TT f z) o_mul p) := by
  intro d μ Q k hd hin hq
  obtain ⟨d1, rfl⟩ : ∃ d1, d = d1 + 2 := ⟨d - 2, by omega⟩
  unfold q_chain at hq
  have bl : ∀ (k1 : Nat) (v : Int32) (μ1 : si_Mm), fx Jp A0 μ μ1 → BD f z k1 μ1 → (∀ μ' v, RO f z nm o (nd + 1) (k1, none) μ μ' v → Q (some (.inl v)) μ') → si_W sc (d1 + 2) 168 5 [some (.inr (.inr (7, 0))), some (.inl v)] [] μ1 Q := fun k1 v μ1 f1 b1 hq => k_X7_term1_5 (b_isSign b1 (k_X7_term1_11 ⟨fun _ => hq μ1 v ⟨f1, b1⟩, fun c => absurd rfl c⟩))
  have lp : ∀ (m k1 : Nat) (cs : List Int32) (v : Int32) (μ1 : si_Mm), nt < k1 + m → fx Jp A0 μ μ1 → IN f z fr nm o nt k1 μ1 → Gd nm cs v (nd + 1) → (∀ μ' v, RO f z nm o (nd + 1) (q_lp (TT f z) o_mul p m k1 cs) μ μ' v → Q (some (.inl v)) μ') → si_W sc (d1 + 2) 168 5 [some (.inr (.inr (7, 0))), some (.inl v)] [] μ1 Q := by
    intro m
    induction m with
    | zero => intro k1 cs v μ1 hk f1 i1 g1 hq; have := i1.2.2.2.2; omega
    | succ m ih =>
      intro k1 cs v μ1 hk f1 i1 g1 hq
      unfold q_lp at hq
      refine k_X7_term1_5 (r_isSign (by unfold isG; decide) i1.2.1 (k_X7_term1_11 ⟨fun c => ?_, fun c => ?_⟩))
      · have c' := bi_0.mp c
        have e : o_mul (TT f z k1) = none := if_neg c'
        rw [e] at hq
        exact hq μ1 v ⟨f1, i1.2.1, i1.2.2.1, g1⟩
      · have c' := bi_n c
        have e : o_mul (TT f z k1) = some (-18) := if_pos c'
        rw [e] at hq
        dsimp only at hq
        refine r_nx h0 i1 (TT_g (by unfold isG; decide) c') fun μ2 f2 i2 => k_X7_term1_18 (hp (d1 + 1) μ2 _ (k1 + 1) (by omega) i2 fun μ3 w r3 => k_X7_term1_23 ?_)
        have f13 := (f1.tr f2).tr r3.1
        rcases hr : p (k1 + 1) with ⟨k2, _ | ds⟩
        · rw [hr] at r3 hq
          exact bl k2 _ μ3 f13 r3.2 hq
        · rw [hr] at r3 hq
          have hk2 := pg_s hpg i2.2.2.2.2 hr
          refine ih k2 _ _ μ3 (by omega) f13 ⟨i2.1.p r3.1, r3.2.1, r3.2.2.1, nm_p i2.2.2.2.1 r3.1, hk2.2.1⟩ ?_ hq
          have g := Gd_bin (cbin (-18) (by decide)) g1 r3.2.2.2 (Nat.le_refl _)
          rw [op18] at g; exact g
  refine k_X7_term1_0 (hp (d1 + 1) μ _ k (by omega) hin fun μ1 v r1 => k_X7_term1_4 ?_)
  rcases hr : p k with ⟨k1, _ | cs⟩
  · rw [hr] at r1 hq
    exact bl k1 v μ1 r1.1 r1.2 hq
  · rw [hr] at r1 hq
    have hk1 := pg_s hpg hin.2.2.2.2 hr
    exact lp 160 k1 cs v μ1 (by omega) r1.1 ⟨hin.1.p r1.1, r1.2.1, r1.2.2.1, nm_p hin.2.2.2.1 r1.1, hk1.2.1⟩ (r1.2.2.2.mo (by omega)) hq

theorem rl_added1 (h0 : ∀ k, nt ≤ k → TT f z k = 0) (hnt : nt ≤ 160) (hD : 1 ≤ D) (hpg : pg nt p) (hp : rrS sc f z fr nm nt D 168 [none] o nd p) : rrS sc f z fr nm nt (D + 1) 169 [none, none, none] o (nd + 1) (q_chain (TT f z) o_add p) := by
  intro d μ Q k hd hin hq
  obtain ⟨d1, rfl⟩ : ∃ d1, d = d1 + 2 := ⟨d - 2, by omega⟩
  unfold q_chain at hq
  have bl : ∀ (k1 : Nat) (v : Int32) (μ1 : si_Mm) (u2 u3 : Option si_AV), fx Jp A0 μ μ1 → BD f z k1 μ1 → (∀ μ' v, RO f z nm o (nd + 1) (k1, none) μ μ' v → Q (some (.inl v)) μ') → si_W sc (d1 + 2) 169 5 [some (.inr (.inr (7, 0))), some (.inl v), u2, u3] [] μ1 Q := fun k1 v μ1 u2 u3 f1 b1 hq => k_X7_added1_5 (b_isSign b1 (k_X7_added1_11 ⟨fun c => absurd rfl c, fun _ => b_isSign b1 (k_X7_added1_20 ⟨fun _ => hq μ1 v ⟨f1, b1⟩, fun c => absurd rfl c⟩)⟩))
  have lp : ∀ (m k1 : Nat) (cs : List Int32) (v : Int32) (μ1 : si_Mm) (u2 u3 : Option si_AV), nt < k1 + m → fx Jp A0 μ μ1 → IN f z fr nm o nt k1 μ1 → Gd nm cs v (nd + 1) → (∀ μ' v, RO f z nm o (nd + 1) (q_lp (TT f z) o_add p m k1 cs) μ μ' v → Q (some (.inl v)) μ') → si_W sc (d1 + 2) 169 5 [some (.inr (.inr (7, 0))), some (.inl v), u2, u3] [] μ1 Q := by
    intro m
    induction m with
    | zero => intro k1 cs v μ1 u2 u3 hk f1 i1 g1 hq; have := i1.2.2.2.2; omega
    | succ m ih =>
      intro k1 cs v μ1 u2 u3 hk f1 i1 g1 hq
      unfold q_lp at hq
      have e43 : si_c64 7 = (43 : Int32).toInt64 := by decide +kernel
      have lg : isG (TT f z k1) → (lg_cmp μ1.2 (si_c64 7) = 0 ↔ TT f z k1 = 43) := by
        intro hg
        rcases i1.2.1.cs with q | q | q | q | q
        · rw [q.1] at hg; exact absurd hg (by unfold isG; decide)
        · exfalso
          have hr := isG_c hg
          rcases wc_r (wl f (lb f z (en f z k1)) (wE f z (lb f z (en f z k1)))) with w1 | ⟨w, hw, w1, _⟩
          · rw [q.2.2.2.2.1, w1, i_1] at hr; omega
          · have := cw_r w hw; rw [q.2.2.2.2.1, w1] at hr; omega
        · rw [q.1] at hg; exact absurd hg (by unfold isG; decide)
        · rw [lg_cmp_eq, q.2.2.2, e43, ← Int64.toInt_inj, Int32.toInt_toInt64, Int32.toInt_toInt64, i_eq]
        · rw [q.1] at hg; exact absurd hg (by unfold isG; decide)
      have go : ∀ (a2 c : Int32) (u3 : Option si_AV), (TT f z k1 ≠ 0 ∧ TT f z k1 ≠ 1) → o_add (TT f z k1) = some c → ((a2 = 0 ∧ c = -17) ∨ (a2 = 1 ∧ c = -16)) → si_W sc (d1 + 1) 136 0 [some (.inr (.inr (7, 0))), none, none] [] μ1 (fun rv μq => si_W sc (d1 + 2) 169 44 [some (.inr (.inr (7, 0))), some (.inl v), some (.inl a2), u3] (si_rt rv []) μq Q) := by
        intro a2 c u3 hT e ha
        rw [e] at hq
        dsimp only at hq
        refine r_nx h0 i1 hT fun μ2 f2 i2 => k_X7_added1_44 (hp (d1 + 1) μ2 _ (k1 + 1) (by omega) i2 fun μ3 w r3 => ?_)
        have f13 := (f1.tr f2).tr r3.1
        rcases hr : p (k1 + 1) with ⟨k2, _ | ds⟩
        · rw [hr] at r3 hq
          rcases ha with ⟨rfl, rfl⟩ | ⟨rfl, rfl⟩
          · exact k_X7_added1_48 ⟨fun _ => bl k2 _ μ3 _ _ f13 r3.2 hq, fun c => absurd rfl c⟩
          · exact k_X7_added1_48 ⟨fun c => absurd c (by decide), fun _ => bl k2 _ μ3 _ _ f13 r3.2 hq⟩
        · rw [hr] at r3 hq
          have hk2 := pg_s hpg i2.2.2.2.2 hr
          have i3 : IN f z fr nm o nt k2 μ3 := ⟨i2.1.p r3.1, r3.2.1, r3.2.2.1, nm_p i2.2.2.2.1 r3.1, hk2.2.1⟩
          rcases ha with ⟨rfl, rfl⟩ | ⟨rfl, rfl⟩
          · have g := Gd_bin (cbin (-17) (by decide)) g1 r3.2.2.2 (Nat.le_refl _)
            rw [op17] at g
            exact k_X7_added1_48 ⟨fun _ => ih k2 _ _ μ3 _ _ (by omega) f13 i3 g hq, fun c => absurd rfl c⟩
          · have g := Gd_bin (cbin (-16) (by decide)) g1 r3.2.2.2 (Nat.le_refl _)
            rw [op16] at g
            exact k_X7_added1_48 ⟨fun c => absurd c (by decide), fun _ => ih k2 _ _ μ3 _ _ (by omega) f13 i3 g hq⟩
      refine k_X7_added1_5 (r_isSign (by unfold isG; decide) i1.2.1 (k_X7_added1_11 ⟨fun c => ?_, fun c => r_isSign (by unfold isG; decide) i1.2.1 (k_X7_added1_20 ⟨fun c2 => ?_, fun c2 => ?_⟩)⟩))
      · have c' := bi_n c
        have hg : isG (TT f z k1) := by rw [c']; unfold isG; decide
        exact ⟨fun c3 => absurd ((lg hg).mpr c') c3, fun _ => go 1 (-16) u3 (TT_g (by unfold isG; decide) c') (if_pos c') (Or.inr ⟨rfl, rfl⟩)⟩
      · have e : o_add (TT f z k1) = none := by unfold o_add; rw [if_neg (bi_0.mp c), if_neg (bi_0.mp c2)]
        rw [e] at hq
        exact hq μ1 v ⟨f1, i1.2.1, i1.2.2.1, g1⟩
      · have c' := bi_n c2
        have hg : isG (TT f z k1) := by rw [c']; unfold isG; decide
        have e : o_add (TT f z k1) = some (-17) := by unfold o_add; rw [if_neg (bi_0.mp c), if_pos c']
        exact ⟨fun _ => go 0 (-17) u3 (TT_g (by unfold isG; decide) c') e (Or.inl ⟨rfl, rfl⟩), fun c3 => absurd ((lg hg).mp c3) (bi_0.mp c)⟩
  refine k_X7_added1_0 (hp (d1 + 1) μ _ k (by omega) hin fun μ1 v r1 => k_X7_added1_4 ?_)
  rcases hr : p k with ⟨k1, _ | cs⟩
  · rw [hr] at r1 hq
    exact bl k1 v μ1 _ _ r1.1 r1.2 hq
  · rw [hr] at r1 hq
    have hk1 := pg_s hpg hin.2.2.2.2 hr
    exact lp 160 k1 cs v μ1 _ _ (by omega) r1.1 ⟨hin.1.p r1.1, r1.2.1, r1.2.2.1, nm_p hin.2.2.2.1 r1.1, hk1.2.1⟩ (r1.2.2.2.mo (by omega)) hq

set_option maxHeartbeats 1000000 in
theorem rl_not1 {pN : PF} {dN : Nat} (hdN : dN ≤ nd + 1) (hN : rrS sc f z fr nm nt D 164 [none, none, none] 2 dN pN) (h0 : ∀ k, nt ≤ k → TT f z k = 0) (hD : 5 ≤ D) (hpg : pg nt p) (hp : rrS sc f z fr nm nt D 169 [none, none, none] 1 nd p) : rrS sc f z fr nm nt (D + 1) 170 [none, none, none] 1 (nd + 1) (q_not (TT f z) (some pN) p) := by
  intro d μ Q k hd hin hq
  obtain ⟨d1, rfl⟩ : ∃ d1, d = d1 + 3 := ⟨d - 3, by omega⟩
  unfold q_not at hq
  have e60 : si_c64 8 = (60 : Int32).toInt64 := by decide +kernel
  refine k_X7_not1_0 (r_isW (w := 5) (by decide) (by decide +kernel) hin.1 hin.2.1 (k_X7_not1_15 ⟨fun c => ?_, fun c => ?_⟩))
  · have c' : ¬ TT f z k = 206 := bi_0.mp c
    rw [if_neg c'] at hq
    refine hp (d1 + 2) μ _ k (by omega) hin fun μ1 v r1 => k_X7_not1_56 ?_
    rcases hr : p k with ⟨k1, _ | cs⟩
    · rw [hr] at r1 hq
      exact b_isSign r1.2 (k_X7_not1_63 ⟨fun q => absurd rfl q, fun _ => b_isSign r1.2 (k_X7_not1_72 ⟨fun q => absurd rfl q, fun _ => hq μ1 v ⟨r1.1, r1.2⟩⟩)⟩)
    · rw [hr] at r1 hq
      have hk1 := pg_s hpg hin.2.2.2.2 hr
      have i1 : IN f z fr nm 1 nt k1 μ1 := ⟨hin.1.p r1.1, r1.2.1, r1.2.2.1, nm_p hin.2.2.2.1 r1.1, hk1.2.1⟩
      unfold q_b at hq
      dsimp only at hq
      have lg : isG (TT f z k1) → (lg_cmp μ1.2 (si_c64 8) = 0 ↔ TT f z k1 = 60) := by
        intro hg
        rcases i1.2.1.cs with q | q | q | q | q
        · rw [q.1] at hg; exact absurd hg (by unfold isG; decide)
        · exfalso
          have hr := isG_c hg
          rcases wc_r (wl f (lb f z (en f z k1)) (wE f z (lb f z (en f z k1)))) with w1 | ⟨w, hw, w1, _⟩
          · rw [q.2.2.2.2.1, w1, i_1] at hr; omega
          · have := cw_r w hw; rw [q.2.2.2.2.1, w1] at hr; omega
        · rw [q.1] at hg; exact absurd hg (by unfold isG; decide)
        · rw [lg_cmp_eq, q.2.2.2, e60, ← Int64.toInt_inj, Int32.toInt_toInt64, Int32.toInt_toInt64, i_eq]
        · rw [q.1] at hg; exact absurd hg (by unfold isG; decide)
      have go : ∀ (a2 c : Int32) (u3 : Option si_AV), (TT f z k1 ≠ 0 ∧ TT f z k1 ≠ 1) → ((a2 = 0 ∧ c = -15) ∨ (a2 = 1 ∧ c = -14)) → (∀ μ' v, RO f z nm 1 (nd + 1) (q_b (p (k1 + 1)) fun k2 ds => (k2, some (cs ++ (ds ++ [c])))) μ μ' v → Q (some (.inl v)) μ') → si_W sc (d1 + 2) 136 0 [some (.inr (.inr (7, 0))), none, none] [] μ1 (fun rv μq => si_W sc (d1 + 3) 170 98 [some (.inr (.inr (7, 0))), some (.inl v), some (.inl a2), u3] (si_rt rv []) μq Q) := by
        intro a2 c u3 hT ha hq
        refine r_nx h0 i1 hT fun μ2 f2 i2 => k_X7_not1_98 (hp (d1 + 2) μ2 _ (k1 + 1) (by omega) i2 fun μ3 w r3 => ?_)
        have f13 := (r1.1.tr f2).tr r3.1
        have key : ∀ v' : Int32, v' = ev_op c v w → Q (some (.inl v')) μ3 := by
          intro v' hv
          rcases hr : p (k1 + 1) with ⟨k2, _ | ds⟩
          · rw [hr] at r3 hq
            exact hq μ3 v' ⟨f13, r3.2⟩
          · rw [hr] at r3 hq
            refine hq μ3 v' ⟨f13, r3.2.1, r3.2.2.1, ?_⟩
            rw [hv]
            exact Gd_bin (cbin c (by rcases ha with ⟨_, rfl⟩ | ⟨_, rfl⟩ <;> decide)) (r1.2.2.2.mo (by omega)) r3.2.2.2 (Nat.le_refl _)
        rcases ha with ⟨rfl, rfl⟩ | ⟨rfl, rfl⟩
        · rw [op15] at key
          exact k_X7_not1_102 ⟨fun _ => ⟨fun q => key 0 (bi_f q).symm, fun q => key 1 (bi_t q).symm⟩, fun q => absurd rfl q⟩
        · rw [op14] at key
          exact k_X7_not1_102 ⟨fun q => absurd q (by decide), fun _ => ⟨fun q => key 0 (bi_f (i_nlt.mpr q)).symm, fun q => key 1 (bi_t (i_nle.mp q)).symm⟩⟩
      refine r_isSign (by unfold isG; decide) i1.2.1 (k_X7_not1_63 ⟨fun c2 => ?_, fun c2 => r_isSign (by unfold isG; decide) i1.2.1 (k_X7_not1_72 ⟨fun c3 => ?_, fun c3 => ?_⟩)⟩)
      · have c2' := bi_n c2
        rw [if_pos c2'] at hq
        have hg : isG (TT f z k1) := by rw [c2']; unfold isG; decide
        exact ⟨fun c4 => absurd ((lg hg).mpr c2') c4, fun _ => go 1 (-14) _ (TT_g (by unfold isG; decide) c2') (Or.inr ⟨rfl, rfl⟩) hq⟩
      · have c3' := bi_n c3
        rw [if_neg (bi_0.mp c2), if_pos c3'] at hq
        have hg : isG (TT f z k1) := by rw [c3']; unfold isG; decide
        exact ⟨fun _ => go 0 (-15) _ (TT_g (by unfold isG; decide) c3') (Or.inl ⟨rfl, rfl⟩) hq, fun c4 => absurd ((lg hg).mp c4) (bi_0.mp c2)⟩
      · rw [if_neg (bi_0.mp c2), if_neg (bi_0.mp c3)] at hq
        exact hq μ1 v ⟨r1.1, r1.2.1, r1.2.2.1, r1.2.2.2.mo (by omega)⟩
  · have c' : TT f z k = 206 := bi_n c
    rw [if_pos c'] at hq
    dsimp only at hq
    refine r_opens h0 (by omega) hin (TT_w (w := 5) (by decide) (bi_n c)) (fun h5 => by omega) (fun _ μ1 f1 i1 => k_X7_not1_22 ⟨fun _ => hN (d1 + 2) μ1 _ (k + 1) (by omega) i1 fun μ2 v r2 => ?_, fun q => absurd q (by decide)⟩)
    have fin : ∀ v' : Int32, v' = bi (v = 0) → Q (some (.inl v')) (si_ms μ2 7 0 27 (μ2.1 7 0 27 - 1)) := by
      intro v' hv
      have f12 := (f1.tr r2.1).tr (fx.p1 (v := μ2.1 7 0 27 - 1) (j := 27) (by omega))
      rcases hr : pN (k + 1) with ⟨k2, _ | ds⟩
      · rw [hr] at r2 hq
        exact hq _ v' ⟨f12, by rw [ms_eq, if_neg (by omega)]; exact r2.2.1, by rw [ms_eq, if_neg (by omega)]; exact r2.2.2⟩
      · rw [hr] at r2 hq
        refine hq _ v' ⟨f12, AT_27 r2.2.1, ?_, ?_⟩
        · have e := nI_sub1 (n := 1 + 1) (by omega) (by omega)
          rw [ms_eq, if_pos ⟨rfl, rfl, rfl⟩, r2.2.2.1]
          exact e
        · rw [hv]; exact (Gd_not r2.2.2.2).mo (by omega)
    exact k_X7_not1_31 ⟨fun q => fin 0 (bi_f q).symm, fun q => fin 1 (bi_t q).symm⟩

theorem rl_both1 (h0 : ∀ k, nt ≤ k → TT f z k = 0) (hnt : nt ≤ 160) (hD : 2 ≤ D) (hpg : pg nt p) (hp : rrS sc f z fr nm nt D 170 [none, none, none] o nd p) : rrS sc f z fr nm nt (D + 1) 171 [none, none] o (nd + 1) (q_chain (TT f z) o_and p) := by
  intro d μ Q k hd hin hq
  obtain ⟨d1, rfl⟩ : ∃ d1, d = d1 + 3 := ⟨d - 3, by omega⟩
  unfold q_chain at hq
  have bl : ∀ (k1 : Nat) (v : Int32) (μ1 : si_Mm) (u2 : Option si_AV), fx Jp A0 μ μ1 → BD f z k1 μ1 → (∀ μ' v, RO f z nm o (nd + 1) (k1, none) μ μ' v → Q (some (.inl v)) μ') → si_W sc (d1 + 3) 171 5 [some (.inr (.inr (7, 0))), some (.inl v), u2] [] μ1 Q := fun k1 v μ1 u2 f1 b1 hq => k_X7_both1_5 (b_isW b1 (k_X7_both1_20 ⟨fun _ => hq μ1 v ⟨f1, b1⟩, fun c => absurd rfl c⟩))
  have lp : ∀ (m k1 : Nat) (cs : List Int32) (v : Int32) (μ1 : si_Mm) (u2 : Option si_AV), nt < k1 + m → fx Jp A0 μ μ1 → IN f z fr nm o nt k1 μ1 → Gd nm cs v (nd + 1) → (∀ μ' v, RO f z nm o (nd + 1) (q_lp (TT f z) o_and p m k1 cs) μ μ' v → Q (some (.inl v)) μ') → si_W sc (d1 + 3) 171 5 [some (.inr (.inr (7, 0))), some (.inl v), u2] [] μ1 Q := by
    intro m
    induction m with
    | zero => intro k1 cs v μ1 u2 hk f1 i1 g1 hq; have := i1.2.2.2.2; omega
    | succ m ih =>
      intro k1 cs v μ1 u2 hk f1 i1 g1 hq
      unfold q_lp at hq
      refine k_X7_both1_5 (r_isW (w := 4) (by decide) (by decide +kernel) i1.1 i1.2.1 (k_X7_both1_20 ⟨fun c => ?_, fun c => ?_⟩))
      · have c' : ¬ TT f z k1 = 205 := bi_0.mp c
        have e : o_and (TT f z k1) = none := if_neg c'
        rw [e] at hq
        exact hq μ1 v ⟨f1, i1.2.1, i1.2.2.1, g1⟩
      · have c' : TT f z k1 = 205 := bi_n c
        have e : o_and (TT f z k1) = some (-12) := if_pos c'
        rw [e] at hq
        dsimp only at hq
        refine r_nx h0 i1 (TT_w (w := 4) (by decide) (bi_n c)) fun μ2 f2 i2 => k_X7_both1_27 (hp (d1 + 2) μ2 _ (k1 + 1) (by omega) i2 fun μ3 w r3 => ?_)
        have f13 := (f1.tr f2).tr r3.1
        have key : ∀ (v' : Int32) (u2 : Option si_AV), v' = ev_op (-12) v w → si_W sc (d1 + 3) 171 5 [some (.inr (.inr (7, 0))), some (.inl v'), u2] [] μ3 Q := by
          intro v' u2 hv
          rcases hr : p (k1 + 1) with ⟨k2, _ | ds⟩
          · rw [hr] at r3 hq
            exact bl k2 _ μ3 _ f13 r3.2 hq
          · rw [hr] at r3 hq
            have hk2 := pg_s hpg i2.2.2.2.2 hr
            refine ih k2 _ _ μ3 _ (by omega) f13 ⟨i2.1.p r3.1, r3.2.1, r3.2.2.1, nm_p i2.2.2.2.1 r3.1, hk2.2.1⟩ ?_ hq
            have g := Gd_bin (cbin (-12) (by decide)) g1 r3.2.2.2 (Nat.le_refl _)
            rw [hv]; exact g
        rw [op12] at key
        refine k_X7_both1_31 ⟨fun q1 => key 0 _ (bi_f (fun q => q.1 q1)).symm, fun q1 => ⟨fun q2 => key 0 _ (bi_f (fun q => q.2 q2)).symm, fun q2 => key 1 _ (bi_t ⟨q1, q2⟩).symm⟩⟩
  refine k_X7_both1_0 (hp (d1 + 2) μ _ k (by omega) hin fun μ1 v r1 => k_X7_both1_4 ?_)
  rcases hr : p k with ⟨k1, _ | cs⟩
  · rw [hr] at r1 hq
    exact bl k1 v μ1 _ r1.1 r1.2 hq
  · rw [hr] at r1 hq
    have hk1 := pg_s hpg hin.2.2.2.2 hr
    exact lp 160 k1 cs v μ1 _ (by omega) r1.1 ⟨hin.1.p r1.1, r1.2.1, r1.2.2.1, nm_p hin.2.2.2.1 r1.1, hk1.2.1⟩ (r1.2.2.2.mo (by omega)) hq

theorem rl_either1 (h0 : ∀ k, nt ≤ k → TT f z k = 0) (hnt : nt ≤ 160) (hD : 2 ≤ D) (hpg : pg nt p) (hp : rrS sc f z fr nm nt D 171 [none, none] o nd p) : rrS sc f z fr nm nt (D + 1) 172 [none, none] o (nd + 1) (q_chain (TT f z) o_or p) := by
  intro d μ Q k hd hin hq
  obtain ⟨d1, rfl⟩ : ∃ d1, d = d1 + 3 := ⟨d - 3, by omega⟩
  unfold q_chain at hq
  have bl : ∀ (k1 : Nat) (v : Int32) (μ1 : si_Mm) (u2 : Option si_AV), fx Jp A0 μ μ1 → BD f z k1 μ1 → (∀ μ' v, RO f z nm o (nd + 1) (k1, none) μ μ' v → Q (some (.inl v)) μ') → si_W sc (d1 + 3) 172 5 [some (.inr (.inr (7, 0))), some (.inl v), u2] [] μ1 Q := fun k1 v μ1 u2 f1 b1 hq => k_X7_either1_5 (b_isW b1 (k_X7_either1_19 ⟨fun _ => hq μ1 v ⟨f1, b1⟩, fun c => absurd rfl c⟩))
  have lp : ∀ (m k1 : Nat) (cs : List Int32) (v : Int32) (μ1 : si_Mm) (u2 : Option si_AV), nt < k1 + m → fx Jp A0 μ μ1 → IN f z fr nm o nt k1 μ1 → Gd nm cs v (nd + 1) → (∀ μ' v, RO f z nm o (nd + 1) (q_lp (TT f z) o_or p m k1 cs) μ μ' v → Q (some (.inl v)) μ') → si_W sc (d1 + 3) 172 5 [some (.inr (.inr (7, 0))), some (.inl v), u2] [] μ1 Q := by
    intro m
    induction m with
    | zero => intro k1 cs v μ1 u2 hk f1 i1 g1 hq; have := i1.2.2.2.2; omega
    | succ m ih =>
      intro k1 cs v μ1 u2 hk f1 i1 g1 hq
      unfold q_lp at hq
      refine k_X7_either1_5 (r_isW (w := 3) (by decide) (by decide +kernel) i1.1 i1.2.1 (k_X7_either1_19 ⟨fun c => ?_, fun c => ?_⟩))
      · have c' : ¬ TT f z k1 = 204 := bi_0.mp c
        have e : o_or (TT f z k1) = none := if_neg c'
        rw [e] at hq
        exact hq μ1 v ⟨f1, i1.2.1, i1.2.2.1, g1⟩
      · have c' : TT f z k1 = 204 := bi_n c
        have e : o_or (TT f z k1) = some (-11) := if_pos c'
        rw [e] at hq
        dsimp only at hq
        refine r_nx h0 i1 (TT_w (w := 3) (by decide) (bi_n c)) fun μ2 f2 i2 => k_X7_either1_26 (hp (d1 + 2) μ2 _ (k1 + 1) (by omega) i2 fun μ3 w r3 => ?_)
        have f13 := (f1.tr f2).tr r3.1
        have key : ∀ (v' : Int32) (u2 : Option si_AV), v' = ev_op (-11) v w → si_W sc (d1 + 3) 172 5 [some (.inr (.inr (7, 0))), some (.inl v'), u2] [] μ3 Q := by
          intro v' u2 hv
          rcases hr : p (k1 + 1) with ⟨k2, _ | ds⟩
          · rw [hr] at r3 hq
            exact bl k2 _ μ3 _ f13 r3.2 hq
          · rw [hr] at r3 hq
            have hk2 := pg_s hpg i2.2.2.2.2 hr
            refine ih k2 _ _ μ3 _ (by omega) f13 ⟨i2.1.p r3.1, r3.2.1, r3.2.2.1, nm_p i2.2.2.2.1 r3.1, hk2.2.1⟩ ?_ hq
            have g := Gd_bin (cbin (-11) (by decide)) g1 r3.2.2.2 (Nat.le_refl _)
            rw [hv]; exact g
        rw [op11] at key
        refine k_X7_either1_30 ⟨fun q1 => key 1 _ (bi_t (Or.inl q1)).symm, fun q1 => ⟨fun q2 => key 0 _ (bi_f (fun q => q.elim (fun a => a q1) (fun a => a q2))).symm, fun q2 => key 1 _ (bi_t (Or.inr q2)).symm⟩⟩
  refine k_X7_either1_0 (hp (d1 + 2) μ _ k (by omega) hin fun μ1 v r1 => k_X7_either1_4 ?_)
  rcases hr : p k with ⟨k1, _ | cs⟩
  · rw [hr] at r1 hq
    exact bl k1 v μ1 _ r1.1 r1.2 hq
  · rw [hr] at r1 hq
    have hk1 := pg_s hpg hin.2.2.2.2 hr
    exact lp 160 k1 cs v μ1 _ (by omega) r1.1 ⟨hin.1.p r1.1, r1.2.1, r1.2.2.1, nm_p hin.2.2.2.1 r1.1, hk1.2.1⟩ (r1.2.2.2.mo (by omega)) hq

set_option maxHeartbeats 1000000 in
theorem rl_atom1 {pA pE : PF} {dA : Nat} (hdA : dA ≤ nd) (hpE : pg nt pE) (hA : rrS sc f z fr nm nt D 161 [none] 2 dA pA) (hE : rrS sc f z fr nm nt D 166 [none, none] 2 nd pE) (h0 : ∀ k, nt ≤ k → TT f z k = 0) (hD : 3 ≤ D) (hnd : 1 ≤ nd) : rrS sc f z fr nm nt (D + 1) 167 [none] 1 nd (q_atom (TT f z) (WW f z) (some pA) (some pE)) := by
  intro d μ Q k hd hin hq
  obtain ⟨d1, rfl⟩ : ∃ d1, d = d1 + 4 := ⟨d - 4, by omega⟩
  unfold q_atom at hq
  have hend : ∀ (v : Int32) (μ1 : si_Mm), Q (some (.inl v)) μ1 → si_W sc (d1 + 4) 167 161 [some (.inr (.inr (7, 0))), some (.inl v)] [] μ1 Q := fun v μ1 h => k_X7_atom1_161 h
  refine k_X7_atom1_0 (r_isSign (by unfold isG; decide) hin.2.1 (k_X7_atom1_8 ⟨fun c1 => r_isSign (by unfold isG; decide) hin.2.1 (k_X7_atom1_43 ⟨fun c2 => ⟨fun c => absurd hin.2.1.1 c, fun _ => ⟨fun c3 => ?_, fun c3 => ?_⟩⟩, fun c2 => ?_⟩), fun c1 => ?_⟩))
  · rw [if_neg (bi_0.mp c1), if_neg (bi_0.mp c2)] at hq
    refine k_X7_atom1_123 ⟨fun c => absurd hin.2.1.1 c, fun _ => ⟨fun c4 => k_X7_atom1_157 ?_, fun c4 => r_name hin (fun w h6 h12 e => k_X7_atom1_142 ⟨fun c => absurd hin.2.1.1 c, fun _ => r_nx h0 hin (TT_w h12 e) fun μ1 f1 i1 => k_X7_atom1_154 (hend _ μ1 ?_)⟩) (fun hno μ1 f1 b1 => k_X7_atom1_142 ⟨fun _ => hend _ μ1 ?_, fun c => by rw [b1.1] at c; exact absurd c (by decide)⟩)⟩⟩
    · refine r_fail hin.2.1 fun μ1 f1 b1 _ => hend _ μ1 ?_
      have hT : ¬ TT f z k = 2 ∧ -1 < TT f z k := by
        rcases hin.2.1.cs with q | q | q | q | q
        · rw [q.1]; decide
        · exact absurd q.2.2.1 c4
        · exact absurd q.2.1 c3
        · have := isG_c q.1
          refine ⟨fun e => by rw [e, i_2] at this; omega, ?_⟩
          rw [i_lt]
          have e1 : (-1 : Int32).toInt = -1 := by decide
          omega
        · rw [q.1]; decide
      rw [if_neg hT.1, if_pos hT.2] at hq
      exact hq μ1 _ ⟨f1, b1⟩
    · obtain ⟨n1, n2, n3, n4⟩ := cw_nm w h6 h12
      have h2 : ¬ TT f z k = 2 := fun q => by rw [e] at q; rw [q] at n2; exact n2 (by decide)
      have h1 : ¬ -1 < TT f z k := by rw [e]; exact n4
      rw [if_neg h2, if_neg h1] at hq
      refine hq μ1 _ ⟨f1, i1.2.1, i1.2.2.1, ?_⟩
      rw [e]
      have g := Gd_name (nm := nm) n2 n3
      rw [n1] at g
      exact g.mo (by omega)
    · have hT : ¬ TT f z k = 2 ∧ -1 < TT f z k := by
        rcases hin.2.1.cs with q | q | q | q | q
        · rw [q.2] at c4; exact absurd c4 (by decide)
        · rw [q.2.2.2.2.1]
          rcases wc_r (wl f (lb f z (en f z k)) (wE f z (lb f z (en f z k)))) with w1 | ⟨w, hw, w1, _⟩
          · rw [w1]; decide
          · rw [w1]
            have h6 : w < 6 := Nat.lt_of_not_le fun q6 => hno w q6 hw (by rw [q.2.2.2.2.1, w1])
            have : ∀ w, w < 6 → ¬ cw w = 2 ∧ -1 < cw w := by decide +kernel
            exact this w h6
        · exact absurd q.2.1 c3
        · rw [q.2.1] at c4; exact absurd c4 (by decide)
        · rw [q.2] at c4; exact absurd c4 (by decide)
      rw [if_neg hT.1, if_pos hT.2] at hq
      exact hq μ1 _ ⟨f1, b1⟩
  · rw [if_neg (bi_0.mp c1), if_neg (bi_0.mp c2)] at hq
    have hT : TT f z k = 2 ∧ μ.2 = (WW f z k).toInt64 ∧ 0 ≤ (WW f z k).toInt := by
      rcases hin.2.1.cs with q | q | q | q | q
      · rw [q.2] at c3; exact absurd c3 (by decide)
      · rw [q.2.2.1] at c3; exact absurd c3 (by decide)
      · exact ⟨q.1, q.2.2.2.1, q.2.2.2.2⟩
      · rw [q.2.1] at c3; exact absurd c3 (by decide)
      · rw [q.2] at c3; exact absurd c3 (by decide)
    rw [if_pos hT.1] at hq
    have eW : Int64.toInt32 μ.2 = WW f z k := by rw [hT.2.1]; exact Int32.toInt32_toInt64 _
    rw [eW]
    refine r_nx h0 hin (by rw [hT.1]; decide) fun μ1 f1 i1 => k_X7_atom1_120 (hend _ μ1 (hq μ1 _ ⟨f1, i1.2.1, i1.2.2.1, (Gd_num (by rw [i_le, i_0]; exact hT.2.2)).mo (by omega)⟩))
  · have c2' := bi_n c2
    rw [if_neg (bi_0.mp c1), if_pos c2'] at hq
    dsimp only at hq
    refine r_opens h0 (by omega) hin (TT_g (by unfold isG; decide) c2') (fun h5 => by omega) (fun _ μ1 f1 i1 => k_X7_atom1_50 ⟨fun q => absurd q (by decide), fun _ => hE (d1 + 3) μ1 _ (k + 1) (by omega) i1 fun μ2 v r2 => k_X7_atom1_57 ?_⟩)
    have f12 := f1.tr r2.1
    rcases hr : pE (k + 1) with ⟨k2, _ | ds⟩
    · rw [hr] at r2 hq
      have f13 := f12.tr (fx.p1 (v := μ2.1 7 0 27 - 1) (j := 27) (by omega))
      have b3 : BD f z k2 (si_ms μ2 7 0 27 (μ2.1 7 0 27 - 1)) := ⟨by rw [ms_eq, if_neg (by omega)]; exact r2.2.1, by rw [ms_eq, if_neg (by omega)]; exact r2.2.2⟩
      exact b_isSign r2.2 (k_X7_atom1_64 ⟨fun q => absurd rfl q, fun _ => b_fail r2.2 (k_X7_atom1_71 ⟨fun _ => hend _ _ (hq _ v ⟨f13, b3⟩), fun q => by rw [b3.1] at q; exact absurd q (by decide)⟩)⟩)
    · rw [hr] at r2 hq
      have hk2 := pg_s hpE i1.2.2.2.2 hr
      unfold q_b at hq
      dsimp only at hq
      refine r_isSign (by unfold isG; decide) r2.2.1 (k_X7_atom1_64 ⟨fun c3 => k_X7_atom1_71 ⟨fun q => absurd (by rw [ms_eq, if_neg (by omega)]; exact r2.2.1.1) q, fun _ => ?_⟩, fun c3 => r_fail r2.2.1 fun μ3 f3 b3 _ => k_X7_atom1_71 ?_⟩)
      · have c3' := bi_n c3
        rw [if_pos c3'] at hq
        have f13 := f12.tr (fx.p1 (v := μ2.1 7 0 27 - 1) (j := 27) (by omega))
        have i3 : IN f z fr nm 1 nt k2 (si_ms μ2 7 0 27 (μ2.1 7 0 27 - 1)) := ⟨hin.1.p f13, AT_27 r2.2.1, by rw [ms_eq, if_pos ⟨rfl, rfl, rfl⟩, r2.2.2.1]; exact nI_sub1 (n := 1 + 1) (by omega) (by omega), nm_p hin.2.2.2.1 f13, hk2.2.1⟩
        exact r_nx h0 i3 (TT_g (by unfold isG; decide) c3') fun μ4 f4 i4 => k_X7_atom1_92 (hend _ μ4 (hq μ4 v ⟨f13.tr f4, i4.2.1, i4.2.2.1, r2.2.2.2.mo (by omega)⟩))
      · have c3' := bi_0.mp c3
        rw [if_neg c3'] at hq
        have f14 := (f12.tr f3).tr (fx.p1 (v := μ3.1 7 0 27 - 1) (j := 27) (by omega))
        have b4 : BD f z k2 (si_ms μ3 7 0 27 (μ3.1 7 0 27 - 1)) := ⟨by rw [ms_eq, if_neg (by omega)]; exact b3.1, by rw [ms_eq, if_neg (by omega)]; exact b3.2⟩
        exact ⟨fun _ => hend _ _ (hq _ v ⟨f14, b4⟩), fun q => by rw [b4.1] at q; exact absurd q (by decide)⟩
  · have c1' := bi_n c1
    rw [if_pos c1'] at hq
    dsimp only at hq
    refine r_opens h0 (by omega) hin (TT_g (by unfold isG; decide) c1') (fun h5 => by omega) (fun _ μ1 f1 i1 => k_X7_atom1_15 ⟨fun q => absurd q (by decide), fun _ => hA (d1 + 3) μ1 _ (k + 1) (by omega) i1 fun μ2 v r2 => k_X7_atom1_22 (hend _ _ ?_)⟩)
    have f13 := (f1.tr r2.1).tr (fx.p1 (v := μ2.1 7 0 27 - 1) (j := 27) (by omega))
    rcases hr : pA (k + 1) with ⟨k2, _ | ds⟩
    · rw [hr] at r2 hq
      exact hq _ _ ⟨f13, by rw [ms_eq, if_neg (by omega)]; exact r2.2.1, by rw [ms_eq, if_neg (by omega)]; exact r2.2.2⟩
    · rw [hr] at r2 hq
      refine hq _ _ ⟨f13, AT_27 r2.2.1, ?_, (Gd_neg r2.2.2.2).mo (by omega)⟩
      rw [ms_eq, if_pos ⟨rfl, rfl, rfl⟩, r2.2.2.1]
      exact nI_sub1 (n := 1 + 1) (by omega) (by omega)

theorem rl_term0 (h0 : ∀ k, nt ≤ k → TT f z k = 0) (hnt : nt ≤ 160) (hD : 1 ≤ D) (hpg : pg nt p) (hp : rrS sc f z fr nm nt D 173 [none] o nd p) : rrS sc f z fr nm nt (D + 1) 174 [none] o (nd + 1) (q_chain (TT f z) o_mul p) := by
  intro d μ Q k hd hin hq
  obtain ⟨d1, rfl⟩ : ∃ d1, d = d1 + 2 := ⟨d - 2, by omega⟩
  unfold q_chain at hq
  have bl : ∀ (k1 : Nat) (v : Int32) (μ1 : si_Mm), fx Jp A0 μ μ1 → BD f z k1 μ1 → (∀ μ' v, RO f z nm o (nd + 1) (k1, none) μ μ' v → Q (some (.inl v)) μ') → si_W sc (d1 + 2) 174 5 [some (.inr (.inr (7, 0))), some (.inl v)] [] μ1 Q := fun k1 v μ1 f1 b1 hq => k_X7_term0_5 (b_isSign b1 (k_X7_term0_11 ⟨fun _ => hq μ1 v ⟨f1, b1⟩, fun c => absurd rfl c⟩))
  have lp : ∀ (m k1 : Nat) (cs : List Int32) (v : Int32) (μ1 : si_Mm), nt < k1 + m → fx Jp A0 μ μ1 → IN f z fr nm o nt k1 μ1 → Gd nm cs v (nd + 1) → (∀ μ' v, RO f z nm o (nd + 1) (q_lp (TT f z) o_mul p m k1 cs) μ μ' v → Q (some (.inl v)) μ') → si_W sc (d1 + 2) 174 5 [some (.inr (.inr (7, 0))), some (.inl v)] [] μ1 Q := by
    intro m
    induction m with
    | zero => intro k1 cs v μ1 hk f1 i1 g1 hq; have := i1.2.2.2.2; omega
    | succ m ih =>
      intro k1 cs v μ1 hk f1 i1 g1 hq
      unfold q_lp at hq
      refine k_X7_term0_5 (r_isSign (by unfold isG; decide) i1.2.1 (k_X7_term0_11 ⟨fun c => ?_, fun c => ?_⟩))
      · have c' := bi_0.mp c
        have e : o_mul (TT f z k1) = none := if_neg c'
        rw [e] at hq
        exact hq μ1 v ⟨f1, i1.2.1, i1.2.2.1, g1⟩
      · have c' := bi_n c
        have e : o_mul (TT f z k1) = some (-18) := if_pos c'
        rw [e] at hq
        dsimp only at hq
        refine r_nx h0 i1 (TT_g (by unfold isG; decide) c') fun μ2 f2 i2 => k_X7_term0_18 (hp (d1 + 1) μ2 _ (k1 + 1) (by omega) i2 fun μ3 w r3 => k_X7_term0_23 ?_)
        have f13 := (f1.tr f2).tr r3.1
        rcases hr : p (k1 + 1) with ⟨k2, _ | ds⟩
        · rw [hr] at r3 hq
          exact bl k2 _ μ3 f13 r3.2 hq
        · rw [hr] at r3 hq
          have hk2 := pg_s hpg i2.2.2.2.2 hr
          refine ih k2 _ _ μ3 (by omega) f13 ⟨i2.1.p r3.1, r3.2.1, r3.2.2.1, nm_p i2.2.2.2.1 r3.1, hk2.2.1⟩ ?_ hq
          have g := Gd_bin (cbin (-18) (by decide)) g1 r3.2.2.2 (Nat.le_refl _)
          rw [op18] at g; exact g
  refine k_X7_term0_0 (hp (d1 + 1) μ _ k (by omega) hin fun μ1 v r1 => k_X7_term0_4 ?_)
  rcases hr : p k with ⟨k1, _ | cs⟩
  · rw [hr] at r1 hq
    exact bl k1 v μ1 r1.1 r1.2 hq
  · rw [hr] at r1 hq
    have hk1 := pg_s hpg hin.2.2.2.2 hr
    exact lp 160 k1 cs v μ1 (by omega) r1.1 ⟨hin.1.p r1.1, r1.2.1, r1.2.2.1, nm_p hin.2.2.2.1 r1.1, hk1.2.1⟩ (r1.2.2.2.mo (by omega)) hq

theorem rl_added0 (h0 : ∀ k, nt ≤ k → TT f z k = 0) (hnt : nt ≤ 160) (hD : 1 ≤ D) (hpg : pg nt p) (hp : rrS sc f z fr nm nt D 174 [none] o nd p) : rrS sc f z fr nm nt (D + 1) 175 [none, none, none] o (nd + 1) (q_chain (TT f z) o_add p) := by
  intro d μ Q k hd hin hq
  obtain ⟨d1, rfl⟩ : ∃ d1, d = d1 + 2 := ⟨d - 2, by omega⟩
  unfold q_chain at hq
  have bl : ∀ (k1 : Nat) (v : Int32) (μ1 : si_Mm) (u2 u3 : Option si_AV), fx Jp A0 μ μ1 → BD f z k1 μ1 → (∀ μ' v, RO f z nm o (nd + 1) (k1, none) μ μ' v → Q (some (.inl v)) μ') → si_W sc (d1 + 2) 175 5 [some (.inr (.inr (7, 0))), some (.inl v), u2, u3] [] μ1 Q := fun k1 v μ1 u2 u3 f1 b1 hq => k_X7_added0_5 (b_isSign b1 (k_X7_added0_11 ⟨fun c => absurd rfl c, fun _ => b_isSign b1 (k_X7_added0_20 ⟨fun _ => hq μ1 v ⟨f1, b1⟩, fun c => absurd rfl c⟩)⟩))
  have lp : ∀ (m k1 : Nat) (cs : List Int32) (v : Int32) (μ1 : si_Mm) (u2 u3 : Option si_AV), nt < k1 + m → fx Jp A0 μ μ1 → IN f z fr nm o nt k1 μ1 → Gd nm cs v (nd + 1) → (∀ μ' v, RO f z nm o (nd + 1) (q_lp (TT f z) o_add p m k1 cs) μ μ' v → Q (some (.inl v)) μ') → si_W sc (d1 + 2) 175 5 [some (.inr (.inr (7, 0))), some (.inl v), u2, u3] [] μ1 Q := by
    intro m
    induction m with
    | zero => intro k1 cs v μ1 u2 u3 hk f1 i1 g1 hq; have := i1.2.2.2.2; omega
    | succ m ih =>
      intro k1 cs v μ1 u2 u3 hk f1 i1 g1 hq
      unfold q_lp at hq
      have e43 : si_c64 7 = (43 : Int32).toInt64 := by decide +kernel
      have lg : isG (TT f z k1) → (lg_cmp μ1.2 (si_c64 7) = 0 ↔ TT f z k1 = 43) := by
        intro hg
        rcases i1.2.1.cs with q | q | q | q | q
        · rw [q.1] at hg; exact absurd hg (by unfold isG; decide)
        · exfalso
          have hr := isG_c hg
          rcases wc_r (wl f (lb f z (en f z k1)) (wE f z (lb f z (en f z k1)))) with w1 | ⟨w, hw, w1, _⟩
          · rw [q.2.2.2.2.1, w1, i_1] at hr; omega
          · have := cw_r w hw; rw [q.2.2.2.2.1, w1] at hr; omega
        · rw [q.1] at hg; exact absurd hg (by unfold isG; decide)
        · rw [lg_cmp_eq, q.2.2.2, e43, ← Int64.toInt_inj, Int32.toInt_toInt64, Int32.toInt_toInt64, i_eq]
        · rw [q.1] at hg; exact absurd hg (by unfold isG; decide)
      have go : ∀ (a2 c : Int32) (u3 : Option si_AV), (TT f z k1 ≠ 0 ∧ TT f z k1 ≠ 1) → o_add (TT f z k1) = some c → ((a2 = 0 ∧ c = -17) ∨ (a2 = 1 ∧ c = -16)) → si_W sc (d1 + 1) 136 0 [some (.inr (.inr (7, 0))), none, none] [] μ1 (fun rv μq => si_W sc (d1 + 2) 175 44 [some (.inr (.inr (7, 0))), some (.inl v), some (.inl a2), u3] (si_rt rv []) μq Q) := by
        intro a2 c u3 hT e ha
        rw [e] at hq
        dsimp only at hq
        refine r_nx h0 i1 hT fun μ2 f2 i2 => k_X7_added0_44 (hp (d1 + 1) μ2 _ (k1 + 1) (by omega) i2 fun μ3 w r3 => ?_)
        have f13 := (f1.tr f2).tr r3.1
        rcases hr : p (k1 + 1) with ⟨k2, _ | ds⟩
        · rw [hr] at r3 hq
          rcases ha with ⟨rfl, rfl⟩ | ⟨rfl, rfl⟩
          · exact k_X7_added0_48 ⟨fun _ => bl k2 _ μ3 _ _ f13 r3.2 hq, fun c => absurd rfl c⟩
          · exact k_X7_added0_48 ⟨fun c => absurd c (by decide), fun _ => bl k2 _ μ3 _ _ f13 r3.2 hq⟩
        · rw [hr] at r3 hq
          have hk2 := pg_s hpg i2.2.2.2.2 hr
          have i3 : IN f z fr nm o nt k2 μ3 := ⟨i2.1.p r3.1, r3.2.1, r3.2.2.1, nm_p i2.2.2.2.1 r3.1, hk2.2.1⟩
          rcases ha with ⟨rfl, rfl⟩ | ⟨rfl, rfl⟩
          · have g := Gd_bin (cbin (-17) (by decide)) g1 r3.2.2.2 (Nat.le_refl _)
            rw [op17] at g
            exact k_X7_added0_48 ⟨fun _ => ih k2 _ _ μ3 _ _ (by omega) f13 i3 g hq, fun c => absurd rfl c⟩
          · have g := Gd_bin (cbin (-16) (by decide)) g1 r3.2.2.2 (Nat.le_refl _)
            rw [op16] at g
            exact k_X7_added0_48 ⟨fun c => absurd c (by decide), fun _ => ih k2 _ _ μ3 _ _ (by omega) f13 i3 g hq⟩
      refine k_X7_added0_5 (r_isSign (by unfold isG; decide) i1.2.1 (k_X7_added0_11 ⟨fun c => ?_, fun c => r_isSign (by unfold isG; decide) i1.2.1 (k_X7_added0_20 ⟨fun c2 => ?_, fun c2 => ?_⟩)⟩))
      · have c' := bi_n c
        have hg : isG (TT f z k1) := by rw [c']; unfold isG; decide
        exact ⟨fun c3 => absurd ((lg hg).mpr c') c3, fun _ => go 1 (-16) u3 (TT_g (by unfold isG; decide) c') (if_pos c') (Or.inr ⟨rfl, rfl⟩)⟩
      · have e : o_add (TT f z k1) = none := by unfold o_add; rw [if_neg (bi_0.mp c), if_neg (bi_0.mp c2)]
        rw [e] at hq
        exact hq μ1 v ⟨f1, i1.2.1, i1.2.2.1, g1⟩
      · have c' := bi_n c2
        have hg : isG (TT f z k1) := by rw [c']; unfold isG; decide
        have e : o_add (TT f z k1) = some (-17) := by unfold o_add; rw [if_neg (bi_0.mp c), if_pos c']
        exact ⟨fun _ => go 0 (-17) u3 (TT_g (by unfold isG; decide) c') e (Or.inl ⟨rfl, rfl⟩), fun c3 => absurd ((lg hg).mp c3) (bi_0.mp c)⟩
  refine k_X7_added0_0 (hp (d1 + 1) μ _ k (by omega) hin fun μ1 v r1 => k_X7_added0_4 ?_)
  rcases hr : p k with ⟨k1, _ | cs⟩
  · rw [hr] at r1 hq
    exact bl k1 v μ1 _ _ r1.1 r1.2 hq
  · rw [hr] at r1 hq
    have hk1 := pg_s hpg hin.2.2.2.2 hr
    exact lp 160 k1 cs v μ1 _ _ (by omega) r1.1 ⟨hin.1.p r1.1, r1.2.1, r1.2.2.1, nm_p hin.2.2.2.1 r1.1, hk1.2.1⟩ (r1.2.2.2.mo (by omega)) hq

set_option maxHeartbeats 1000000 in
theorem rl_not0 {pN : PF} {dN : Nat} (hdN : dN ≤ nd + 1) (hN : rrS sc f z fr nm nt D 170 [none, none, none] 1 dN pN) (h0 : ∀ k, nt ≤ k → TT f z k = 0) (hD : 5 ≤ D) (hpg : pg nt p) (hp : rrS sc f z fr nm nt D 175 [none, none, none] 0 nd p) : rrS sc f z fr nm nt (D + 1) 176 [none, none, none] 0 (nd + 1) (q_not (TT f z) (some pN) p) := by
  intro d μ Q k hd hin hq
  obtain ⟨d1, rfl⟩ : ∃ d1, d = d1 + 3 := ⟨d - 3, by omega⟩
  unfold q_not at hq
  have e60 : si_c64 8 = (60 : Int32).toInt64 := by decide +kernel
  refine k_X7_not0_0 (r_isW (w := 5) (by decide) (by decide +kernel) hin.1 hin.2.1 (k_X7_not0_15 ⟨fun c => ?_, fun c => ?_⟩))
  · have c' : ¬ TT f z k = 206 := bi_0.mp c
    rw [if_neg c'] at hq
    refine hp (d1 + 2) μ _ k (by omega) hin fun μ1 v r1 => k_X7_not0_56 ?_
    rcases hr : p k with ⟨k1, _ | cs⟩
    · rw [hr] at r1 hq
      exact b_isSign r1.2 (k_X7_not0_63 ⟨fun q => absurd rfl q, fun _ => b_isSign r1.2 (k_X7_not0_72 ⟨fun q => absurd rfl q, fun _ => hq μ1 v ⟨r1.1, r1.2⟩⟩)⟩)
    · rw [hr] at r1 hq
      have hk1 := pg_s hpg hin.2.2.2.2 hr
      have i1 : IN f z fr nm 0 nt k1 μ1 := ⟨hin.1.p r1.1, r1.2.1, r1.2.2.1, nm_p hin.2.2.2.1 r1.1, hk1.2.1⟩
      unfold q_b at hq
      dsimp only at hq
      have lg : isG (TT f z k1) → (lg_cmp μ1.2 (si_c64 8) = 0 ↔ TT f z k1 = 60) := by
        intro hg
        rcases i1.2.1.cs with q | q | q | q | q
        · rw [q.1] at hg; exact absurd hg (by unfold isG; decide)
        · exfalso
          have hr := isG_c hg
          rcases wc_r (wl f (lb f z (en f z k1)) (wE f z (lb f z (en f z k1)))) with w1 | ⟨w, hw, w1, _⟩
          · rw [q.2.2.2.2.1, w1, i_1] at hr; omega
          · have := cw_r w hw; rw [q.2.2.2.2.1, w1] at hr; omega
        · rw [q.1] at hg; exact absurd hg (by unfold isG; decide)
        · rw [lg_cmp_eq, q.2.2.2, e60, ← Int64.toInt_inj, Int32.toInt_toInt64, Int32.toInt_toInt64, i_eq]
        · rw [q.1] at hg; exact absurd hg (by unfold isG; decide)
      have go : ∀ (a2 c : Int32) (u3 : Option si_AV), (TT f z k1 ≠ 0 ∧ TT f z k1 ≠ 1) → ((a2 = 0 ∧ c = -15) ∨ (a2 = 1 ∧ c = -14)) → (∀ μ' v, RO f z nm 0 (nd + 1) (q_b (p (k1 + 1)) fun k2 ds => (k2, some (cs ++ (ds ++ [c])))) μ μ' v → Q (some (.inl v)) μ') → si_W sc (d1 + 2) 136 0 [some (.inr (.inr (7, 0))), none, none] [] μ1 (fun rv μq => si_W sc (d1 + 3) 176 98 [some (.inr (.inr (7, 0))), some (.inl v), some (.inl a2), u3] (si_rt rv []) μq Q) := by
        intro a2 c u3 hT ha hq
        refine r_nx h0 i1 hT fun μ2 f2 i2 => k_X7_not0_98 (hp (d1 + 2) μ2 _ (k1 + 1) (by omega) i2 fun μ3 w r3 => ?_)
        have f13 := (r1.1.tr f2).tr r3.1
        have key : ∀ v' : Int32, v' = ev_op c v w → Q (some (.inl v')) μ3 := by
          intro v' hv
          rcases hr : p (k1 + 1) with ⟨k2, _ | ds⟩
          · rw [hr] at r3 hq
            exact hq μ3 v' ⟨f13, r3.2⟩
          · rw [hr] at r3 hq
            refine hq μ3 v' ⟨f13, r3.2.1, r3.2.2.1, ?_⟩
            rw [hv]
            exact Gd_bin (cbin c (by rcases ha with ⟨_, rfl⟩ | ⟨_, rfl⟩ <;> decide)) (r1.2.2.2.mo (by omega)) r3.2.2.2 (Nat.le_refl _)
        rcases ha with ⟨rfl, rfl⟩ | ⟨rfl, rfl⟩
        · rw [op15] at key
          exact k_X7_not0_102 ⟨fun _ => ⟨fun q => key 0 (bi_f q).symm, fun q => key 1 (bi_t q).symm⟩, fun q => absurd rfl q⟩
        · rw [op14] at key
          exact k_X7_not0_102 ⟨fun q => absurd q (by decide), fun _ => ⟨fun q => key 0 (bi_f (i_nlt.mpr q)).symm, fun q => key 1 (bi_t (i_nle.mp q)).symm⟩⟩
      refine r_isSign (by unfold isG; decide) i1.2.1 (k_X7_not0_63 ⟨fun c2 => ?_, fun c2 => r_isSign (by unfold isG; decide) i1.2.1 (k_X7_not0_72 ⟨fun c3 => ?_, fun c3 => ?_⟩)⟩)
      · have c2' := bi_n c2
        rw [if_pos c2'] at hq
        have hg : isG (TT f z k1) := by rw [c2']; unfold isG; decide
        exact ⟨fun c4 => absurd ((lg hg).mpr c2') c4, fun _ => go 1 (-14) _ (TT_g (by unfold isG; decide) c2') (Or.inr ⟨rfl, rfl⟩) hq⟩
      · have c3' := bi_n c3
        rw [if_neg (bi_0.mp c2), if_pos c3'] at hq
        have hg : isG (TT f z k1) := by rw [c3']; unfold isG; decide
        exact ⟨fun _ => go 0 (-15) _ (TT_g (by unfold isG; decide) c3') (Or.inl ⟨rfl, rfl⟩) hq, fun c4 => absurd ((lg hg).mp c4) (bi_0.mp c2)⟩
      · rw [if_neg (bi_0.mp c2), if_neg (bi_0.mp c3)] at hq
        exact hq μ1 v ⟨r1.1, r1.2.1, r1.2.2.1, r1.2.2.2.mo (by omega)⟩
  · have c' : TT f z k = 206 := bi_n c
    rw [if_pos c'] at hq
    dsimp only at hq
    refine r_opens h0 (by omega) hin (TT_w (w := 5) (by decide) (bi_n c)) (fun h5 => by omega) (fun _ μ1 f1 i1 => k_X7_not0_22 ⟨fun _ => hN (d1 + 2) μ1 _ (k + 1) (by omega) i1 fun μ2 v r2 => ?_, fun q => absurd q (by decide)⟩)
    have fin : ∀ v' : Int32, v' = bi (v = 0) → Q (some (.inl v')) (si_ms μ2 7 0 27 (μ2.1 7 0 27 - 1)) := by
      intro v' hv
      have f12 := (f1.tr r2.1).tr (fx.p1 (v := μ2.1 7 0 27 - 1) (j := 27) (by omega))
      rcases hr : pN (k + 1) with ⟨k2, _ | ds⟩
      · rw [hr] at r2 hq
        exact hq _ v' ⟨f12, by rw [ms_eq, if_neg (by omega)]; exact r2.2.1, by rw [ms_eq, if_neg (by omega)]; exact r2.2.2⟩
      · rw [hr] at r2 hq
        refine hq _ v' ⟨f12, AT_27 r2.2.1, ?_, ?_⟩
        · have e := nI_sub1 (n := 0 + 1) (by omega) (by omega)
          rw [ms_eq, if_pos ⟨rfl, rfl, rfl⟩, r2.2.2.1]
          exact e
        · rw [hv]; exact (Gd_not r2.2.2.2).mo (by omega)
    exact k_X7_not0_31 ⟨fun q => fin 0 (bi_f q).symm, fun q => fin 1 (bi_t q).symm⟩

theorem rl_both0 (h0 : ∀ k, nt ≤ k → TT f z k = 0) (hnt : nt ≤ 160) (hD : 2 ≤ D) (hpg : pg nt p) (hp : rrS sc f z fr nm nt D 176 [none, none, none] o nd p) : rrS sc f z fr nm nt (D + 1) 177 [none, none] o (nd + 1) (q_chain (TT f z) o_and p) := by
  intro d μ Q k hd hin hq
  obtain ⟨d1, rfl⟩ : ∃ d1, d = d1 + 3 := ⟨d - 3, by omega⟩
  unfold q_chain at hq
  have bl : ∀ (k1 : Nat) (v : Int32) (μ1 : si_Mm) (u2 : Option si_AV), fx Jp A0 μ μ1 → BD f z k1 μ1 → (∀ μ' v, RO f z nm o (nd + 1) (k1, none) μ μ' v → Q (some (.inl v)) μ') → si_W sc (d1 + 3) 177 5 [some (.inr (.inr (7, 0))), some (.inl v), u2] [] μ1 Q := fun k1 v μ1 u2 f1 b1 hq => k_X7_both0_5 (b_isW b1 (k_X7_both0_20 ⟨fun _ => hq μ1 v ⟨f1, b1⟩, fun c => absurd rfl c⟩))
  have lp : ∀ (m k1 : Nat) (cs : List Int32) (v : Int32) (μ1 : si_Mm) (u2 : Option si_AV), nt < k1 + m → fx Jp A0 μ μ1 → IN f z fr nm o nt k1 μ1 → Gd nm cs v (nd + 1) → (∀ μ' v, RO f z nm o (nd + 1) (q_lp (TT f z) o_and p m k1 cs) μ μ' v → Q (some (.inl v)) μ') → si_W sc (d1 + 3) 177 5 [some (.inr (.inr (7, 0))), some (.inl v), u2] [] μ1 Q := by
    intro m
    induction m with
    | zero => intro k1 cs v μ1 u2 hk f1 i1 g1 hq; have := i1.2.2.2.2; omega
    | succ m ih =>
      intro k1 cs v μ1 u2 hk f1 i1 g1 hq
      unfold q_lp at hq
      refine k_X7_both0_5 (r_isW (w := 4) (by decide) (by decide +kernel) i1.1 i1.2.1 (k_X7_both0_20 ⟨fun c => ?_, fun c => ?_⟩))
      · have c' : ¬ TT f z k1 = 205 := bi_0.mp c
        have e : o_and (TT f z k1) = none := if_neg c'
        rw [e] at hq
        exact hq μ1 v ⟨f1, i1.2.1, i1.2.2.1, g1⟩
      · have c' : TT f z k1 = 205 := bi_n c
        have e : o_and (TT f z k1) = some (-12) := if_pos c'
        rw [e] at hq
        dsimp only at hq
        refine r_nx h0 i1 (TT_w (w := 4) (by decide) (bi_n c)) fun μ2 f2 i2 => k_X7_both0_27 (hp (d1 + 2) μ2 _ (k1 + 1) (by omega) i2 fun μ3 w r3 => ?_)
        have f13 := (f1.tr f2).tr r3.1
        have key : ∀ (v' : Int32) (u2 : Option si_AV), v' = ev_op (-12) v w → si_W sc (d1 + 3) 177 5 [some (.inr (.inr (7, 0))), some (.inl v'), u2] [] μ3 Q := by
          intro v' u2 hv
          rcases hr : p (k1 + 1) with ⟨k2, _ | ds⟩
          · rw [hr] at r3 hq
            exact bl k2 _ μ3 _ f13 r3.2 hq
          · rw [hr] at r3 hq
            have hk2 := pg_s hpg i2.2.2.2.2 hr
            refine ih k2 _ _ μ3 _ (by omega) f13 ⟨i2.1.p r3.1, r3.2.1, r3.2.2.1, nm_p i2.2.2.2.1 r3.1, hk2.2.1⟩ ?_ hq
            have g := Gd_bin (cbin (-12) (by decide)) g1 r3.2.2.2 (Nat.le_refl _)
            rw [hv]; exact g
        rw [op12] at key
        refine k_X7_both0_31 ⟨fun q1 => key 0 _ (bi_f (fun q => q.1 q1)).symm, fun q1 => ⟨fun q2 => key 0 _ (bi_f (fun q => q.2 q2)).symm, fun q2 => key 1 _ (bi_t ⟨q1, q2⟩).symm⟩⟩
  refine k_X7_both0_0 (hp (d1 + 2) μ _ k (by omega) hin fun μ1 v r1 => k_X7_both0_4 ?_)
  rcases hr : p k with ⟨k1, _ | cs⟩
  · rw [hr] at r1 hq
    exact bl k1 v μ1 _ r1.1 r1.2 hq
  · rw [hr] at r1 hq
    have hk1 := pg_s hpg hin.2.2.2.2 hr
    exact lp 160 k1 cs v μ1 _ (by omega) r1.1 ⟨hin.1.p r1.1, r1.2.1, r1.2.2.1, nm_p hin.2.2.2.1 r1.1, hk1.2.1⟩ (r1.2.2.2.mo (by omega)) hq

theorem rl_either0 (h0 : ∀ k, nt ≤ k → TT f z k = 0) (hnt : nt ≤ 160) (hD : 2 ≤ D) (hpg : pg nt p) (hp : rrS sc f z fr nm nt D 177 [none, none] o nd p) : rrS sc f z fr nm nt (D + 1) 178 [none, none] o (nd + 1) (q_chain (TT f z) o_or p) := by
  intro d μ Q k hd hin hq
  obtain ⟨d1, rfl⟩ : ∃ d1, d = d1 + 3 := ⟨d - 3, by omega⟩
  unfold q_chain at hq
  have bl : ∀ (k1 : Nat) (v : Int32) (μ1 : si_Mm) (u2 : Option si_AV), fx Jp A0 μ μ1 → BD f z k1 μ1 → (∀ μ' v, RO f z nm o (nd + 1) (k1, none) μ μ' v → Q (some (.inl v)) μ') → si_W sc (d1 + 3) 178 5 [some (.inr (.inr (7, 0))), some (.inl v), u2] [] μ1 Q := fun k1 v μ1 u2 f1 b1 hq => k_X7_either0_5 (b_isW b1 (k_X7_either0_19 ⟨fun _ => hq μ1 v ⟨f1, b1⟩, fun c => absurd rfl c⟩))
  have lp : ∀ (m k1 : Nat) (cs : List Int32) (v : Int32) (μ1 : si_Mm) (u2 : Option si_AV), nt < k1 + m → fx Jp A0 μ μ1 → IN f z fr nm o nt k1 μ1 → Gd nm cs v (nd + 1) → (∀ μ' v, RO f z nm o (nd + 1) (q_lp (TT f z) o_or p m k1 cs) μ μ' v → Q (some (.inl v)) μ') → si_W sc (d1 + 3) 178 5 [some (.inr (.inr (7, 0))), some (.inl v), u2] [] μ1 Q := by
    intro m
    induction m with
    | zero => intro k1 cs v μ1 u2 hk f1 i1 g1 hq; have := i1.2.2.2.2; omega
    | succ m ih =>
      intro k1 cs v μ1 u2 hk f1 i1 g1 hq
      unfold q_lp at hq
      refine k_X7_either0_5 (r_isW (w := 3) (by decide) (by decide +kernel) i1.1 i1.2.1 (k_X7_either0_19 ⟨fun c => ?_, fun c => ?_⟩))
      · have c' : ¬ TT f z k1 = 204 := bi_0.mp c
        have e : o_or (TT f z k1) = none := if_neg c'
        rw [e] at hq
        exact hq μ1 v ⟨f1, i1.2.1, i1.2.2.1, g1⟩
      · have c' : TT f z k1 = 204 := bi_n c
        have e : o_or (TT f z k1) = some (-11) := if_pos c'
        rw [e] at hq
        dsimp only at hq
        refine r_nx h0 i1 (TT_w (w := 3) (by decide) (bi_n c)) fun μ2 f2 i2 => k_X7_either0_26 (hp (d1 + 2) μ2 _ (k1 + 1) (by omega) i2 fun μ3 w r3 => ?_)
        have f13 := (f1.tr f2).tr r3.1
        have key : ∀ (v' : Int32) (u2 : Option si_AV), v' = ev_op (-11) v w → si_W sc (d1 + 3) 178 5 [some (.inr (.inr (7, 0))), some (.inl v'), u2] [] μ3 Q := by
          intro v' u2 hv
          rcases hr : p (k1 + 1) with ⟨k2, _ | ds⟩
          · rw [hr] at r3 hq
            exact bl k2 _ μ3 _ f13 r3.2 hq
          · rw [hr] at r3 hq
            have hk2 := pg_s hpg i2.2.2.2.2 hr
            refine ih k2 _ _ μ3 _ (by omega) f13 ⟨i2.1.p r3.1, r3.2.1, r3.2.2.1, nm_p i2.2.2.2.1 r3.1, hk2.2.1⟩ ?_ hq
            have g := Gd_bin (cbin (-11) (by decide)) g1 r3.2.2.2 (Nat.le_refl _)
            rw [hv]; exact g
        rw [op11] at key
        refine k_X7_either0_30 ⟨fun q1 => key 1 _ (bi_t (Or.inl q1)).symm, fun q1 => ⟨fun q2 => key 0 _ (bi_f (fun q => q.elim (fun a => a q1) (fun a => a q2))).symm, fun q2 => key 1 _ (bi_t (Or.inr q2)).symm⟩⟩
  refine k_X7_either0_0 (hp (d1 + 2) μ _ k (by omega) hin fun μ1 v r1 => k_X7_either0_4 ?_)
  rcases hr : p k with ⟨k1, _ | cs⟩
  · rw [hr] at r1 hq
    exact bl k1 v μ1 _ r1.1 r1.2 hq
  · rw [hr] at r1 hq
    have hk1 := pg_s hpg hin.2.2.2.2 hr
    exact lp 160 k1 cs v μ1 _ (by omega) r1.1 ⟨hin.1.p r1.1, r1.2.1, r1.2.2.1, nm_p hin.2.2.2.1 r1.1, hk1.2.1⟩ (r1.2.2.2.mo (by omega)) hq

set_option maxHeartbeats 1000000 in
theorem rl_atom0 {pA pE : PF} {dA : Nat} (hdA : dA ≤ nd) (hpE : pg nt pE) (hA : rrS sc f z fr nm nt D 167 [none] 1 dA pA) (hE : rrS sc f z fr nm nt D 172 [none, none] 1 nd pE) (h0 : ∀ k, nt ≤ k → TT f z k = 0) (hD : 3 ≤ D) (hnd : 1 ≤ nd) : rrS sc f z fr nm nt (D + 1) 173 [none] 0 nd (q_atom (TT f z) (WW f z) (some pA) (some pE)) := by
  intro d μ Q k hd hin hq
  obtain ⟨d1, rfl⟩ : ∃ d1, d = d1 + 4 := ⟨d - 4, by omega⟩
  unfold q_atom at hq
  have hend : ∀ (v : Int32) (μ1 : si_Mm), Q (some (.inl v)) μ1 → si_W sc (d1 + 4) 173 161 [some (.inr (.inr (7, 0))), some (.inl v)] [] μ1 Q := fun v μ1 h => k_X7_atom0_161 h
  refine k_X7_atom0_0 (r_isSign (by unfold isG; decide) hin.2.1 (k_X7_atom0_8 ⟨fun c1 => r_isSign (by unfold isG; decide) hin.2.1 (k_X7_atom0_43 ⟨fun c2 => ⟨fun c => absurd hin.2.1.1 c, fun _ => ⟨fun c3 => ?_, fun c3 => ?_⟩⟩, fun c2 => ?_⟩), fun c1 => ?_⟩))
  · rw [if_neg (bi_0.mp c1), if_neg (bi_0.mp c2)] at hq
    refine k_X7_atom0_123 ⟨fun c => absurd hin.2.1.1 c, fun _ => ⟨fun c4 => k_X7_atom0_157 ?_, fun c4 => r_name hin (fun w h6 h12 e => k_X7_atom0_142 ⟨fun c => absurd hin.2.1.1 c, fun _ => r_nx h0 hin (TT_w h12 e) fun μ1 f1 i1 => k_X7_atom0_154 (hend _ μ1 ?_)⟩) (fun hno μ1 f1 b1 => k_X7_atom0_142 ⟨fun _ => hend _ μ1 ?_, fun c => by rw [b1.1] at c; exact absurd c (by decide)⟩)⟩⟩
    · refine r_fail hin.2.1 fun μ1 f1 b1 _ => hend _ μ1 ?_
      have hT : ¬ TT f z k = 2 ∧ -1 < TT f z k := by
        rcases hin.2.1.cs with q | q | q | q | q
        · rw [q.1]; decide
        · exact absurd q.2.2.1 c4
        · exact absurd q.2.1 c3
        · have := isG_c q.1
          refine ⟨fun e => by rw [e, i_2] at this; omega, ?_⟩
          rw [i_lt]
          have e1 : (-1 : Int32).toInt = -1 := by decide
          omega
        · rw [q.1]; decide
      rw [if_neg hT.1, if_pos hT.2] at hq
      exact hq μ1 _ ⟨f1, b1⟩
    · obtain ⟨n1, n2, n3, n4⟩ := cw_nm w h6 h12
      have h2 : ¬ TT f z k = 2 := fun q => by rw [e] at q; rw [q] at n2; exact n2 (by decide)
      have h1 : ¬ -1 < TT f z k := by rw [e]; exact n4
      rw [if_neg h2, if_neg h1] at hq
      refine hq μ1 _ ⟨f1, i1.2.1, i1.2.2.1, ?_⟩
      rw [e]
      have g := Gd_name (nm := nm) n2 n3
      rw [n1] at g
      exact g.mo (by omega)
    · have hT : ¬ TT f z k = 2 ∧ -1 < TT f z k := by
        rcases hin.2.1.cs with q | q | q | q | q
        · rw [q.2] at c4; exact absurd c4 (by decide)
        · rw [q.2.2.2.2.1]
          rcases wc_r (wl f (lb f z (en f z k)) (wE f z (lb f z (en f z k)))) with w1 | ⟨w, hw, w1, _⟩
          · rw [w1]; decide
          · rw [w1]
            have h6 : w < 6 := Nat.lt_of_not_le fun q6 => hno w q6 hw (by rw [q.2.2.2.2.1, w1])
            have : ∀ w, w < 6 → ¬ cw w = 2 ∧ -1 < cw w := by decide +kernel
            exact this w h6
        · exact absurd q.2.1 c3
        · rw [q.2.1] at c4; exact absurd c4 (by decide)
        · rw [q.2] at c4; exact absurd c4 (by decide)
      rw [if_neg hT.1, if_pos hT.2] at hq
      exact hq μ1 _ ⟨f1, b1⟩
  · rw [if_neg (bi_0.mp c1), if_neg (bi_0.mp c2)] at hq
    have hT : TT f z k = 2 ∧ μ.2 = (WW f z k).toInt64 ∧ 0 ≤ (WW f z k).toInt := by
      rcases hin.2.1.cs with q | q | q | q | q
      · rw [q.2] at c3; exact absurd c3 (by decide)
      · rw [q.2.2.1] at c3; exact absurd c3 (by decide)
      · exact ⟨q.1, q.2.2.2.1, q.2.2.2.2⟩
      · rw [q.2.1] at c3; exact absurd c3 (by decide)
      · rw [q.2] at c3; exact absurd c3 (by decide)
    rw [if_pos hT.1] at hq
    have eW : Int64.toInt32 μ.2 = WW f z k := by rw [hT.2.1]; exact Int32.toInt32_toInt64 _
    rw [eW]
    refine r_nx h0 hin (by rw [hT.1]; decide) fun μ1 f1 i1 => k_X7_atom0_120 (hend _ μ1 (hq μ1 _ ⟨f1, i1.2.1, i1.2.2.1, (Gd_num (by rw [i_le, i_0]; exact hT.2.2)).mo (by omega)⟩))
  · have c2' := bi_n c2
    rw [if_neg (bi_0.mp c1), if_pos c2'] at hq
    dsimp only at hq
    refine r_opens h0 (by omega) hin (TT_g (by unfold isG; decide) c2') (fun h5 => by omega) (fun _ μ1 f1 i1 => k_X7_atom0_50 ⟨fun q => absurd q (by decide), fun _ => hE (d1 + 3) μ1 _ (k + 1) (by omega) i1 fun μ2 v r2 => k_X7_atom0_57 ?_⟩)
    have f12 := f1.tr r2.1
    rcases hr : pE (k + 1) with ⟨k2, _ | ds⟩
    · rw [hr] at r2 hq
      have f13 := f12.tr (fx.p1 (v := μ2.1 7 0 27 - 1) (j := 27) (by omega))
      have b3 : BD f z k2 (si_ms μ2 7 0 27 (μ2.1 7 0 27 - 1)) := ⟨by rw [ms_eq, if_neg (by omega)]; exact r2.2.1, by rw [ms_eq, if_neg (by omega)]; exact r2.2.2⟩
      exact b_isSign r2.2 (k_X7_atom0_64 ⟨fun q => absurd rfl q, fun _ => b_fail r2.2 (k_X7_atom0_71 ⟨fun _ => hend _ _ (hq _ v ⟨f13, b3⟩), fun q => by rw [b3.1] at q; exact absurd q (by decide)⟩)⟩)
    · rw [hr] at r2 hq
      have hk2 := pg_s hpE i1.2.2.2.2 hr
      unfold q_b at hq
      dsimp only at hq
      refine r_isSign (by unfold isG; decide) r2.2.1 (k_X7_atom0_64 ⟨fun c3 => k_X7_atom0_71 ⟨fun q => absurd (by rw [ms_eq, if_neg (by omega)]; exact r2.2.1.1) q, fun _ => ?_⟩, fun c3 => r_fail r2.2.1 fun μ3 f3 b3 _ => k_X7_atom0_71 ?_⟩)
      · have c3' := bi_n c3
        rw [if_pos c3'] at hq
        have f13 := f12.tr (fx.p1 (v := μ2.1 7 0 27 - 1) (j := 27) (by omega))
        have i3 : IN f z fr nm 0 nt k2 (si_ms μ2 7 0 27 (μ2.1 7 0 27 - 1)) := ⟨hin.1.p f13, AT_27 r2.2.1, by rw [ms_eq, if_pos ⟨rfl, rfl, rfl⟩, r2.2.2.1]; exact nI_sub1 (n := 0 + 1) (by omega) (by omega), nm_p hin.2.2.2.1 f13, hk2.2.1⟩
        exact r_nx h0 i3 (TT_g (by unfold isG; decide) c3') fun μ4 f4 i4 => k_X7_atom0_92 (hend _ μ4 (hq μ4 v ⟨f13.tr f4, i4.2.1, i4.2.2.1, r2.2.2.2.mo (by omega)⟩))
      · have c3' := bi_0.mp c3
        rw [if_neg c3'] at hq
        have f14 := (f12.tr f3).tr (fx.p1 (v := μ3.1 7 0 27 - 1) (j := 27) (by omega))
        have b4 : BD f z k2 (si_ms μ3 7 0 27 (μ3.1 7 0 27 - 1)) := ⟨by rw [ms_eq, if_neg (by omega)]; exact b3.1, by rw [ms_eq, if_neg (by omega)]; exact b3.2⟩
        exact ⟨fun _ => hend _ _ (hq _ v ⟨f14, b4⟩), fun q => by rw [b4.1] at q; exact absurd q (by decide)⟩
  · have c1' := bi_n c1
    rw [if_pos c1'] at hq
    dsimp only at hq
    refine r_opens h0 (by omega) hin (TT_g (by unfold isG; decide) c1') (fun h5 => by omega) (fun _ μ1 f1 i1 => k_X7_atom0_15 ⟨fun q => absurd q (by decide), fun _ => hA (d1 + 3) μ1 _ (k + 1) (by omega) i1 fun μ2 v r2 => k_X7_atom0_22 (hend _ _ ?_)⟩)
    have f13 := (f1.tr r2.1).tr (fx.p1 (v := μ2.1 7 0 27 - 1) (j := 27) (by omega))
    rcases hr : pA (k + 1) with ⟨k2, _ | ds⟩
    · rw [hr] at r2 hq
      exact hq _ _ ⟨f13, by rw [ms_eq, if_neg (by omega)]; exact r2.2.1, by rw [ms_eq, if_neg (by omega)]; exact r2.2.2⟩
    · rw [hr] at r2 hq
      refine hq _ _ ⟨f13, AT_27 r2.2.1, ?_, (Gd_neg r2.2.2.2).mo (by omega)⟩
      rw [ms_eq, if_pos ⟨rfl, rfl, rfl⟩, r2.2.2.1]
      exact nI_sub1 (n := 0 + 1) (by omega) (by omega)
end RD
