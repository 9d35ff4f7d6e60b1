/-! the reference: run, takes, and the best of many -/
section RX4
variable {sc : si_Sc} {d : Nat} {μ μ' : si_Mm} {Q : si_Po} {n : Nat} {V : VT} {S S' : gS} {K : Option gS} {R : shT} {zz : Nat} {f : Nat → Int32} {w o v x y : Int32}
theorem r_tellsOf (h : RG μ n V S) (hT : runT S x) (hq : Q (some (.inl (y_tell S x))) μ) : si_W sc (d + 3) 206 0 [some (.inr (.inr (7, 0))), some (.inl x), none, none] [] μ Q := by
  have h8 := h.2.1.1
  have hR := h.1
  have free : ∀ (m k : Nat) (a : Int32), k + m = 6 → Q (some (.inl (y_free S m k a))) μ → si_W sc (d + 3) 206 91 [some (.inr (.inr (7, 0))), some (.inl 0), some (.inl a), some (.inl (nI k))] [] μ Q := by
    intro m
    induction m with
    | zero => exact fun k a hk hq => k_X7_tellsOf_91 ⟨fun _ => hq, fun hn => absurd ((n6 (by omega)).mpr (by omega)) hn⟩
    | succ m ih =>
      intro k a hk hq
      rw [y_free] at hq
      refine k_X7_tellsOf_91 ⟨fun hn => absurd ((n6 (by omega)).mp hn) (by omega), fun _ => ⟨fun c => absurd rfl c, fun _ => r_whose hR h.2.1 (k_X7_tellsOf_107 ⟨fun c => ?_, fun c => ?_⟩)⟩⟩
      · have c' : ¬ wI S k = -1 := c
        rw [if_neg c'] at hq
        rw [nI_1, Int32.add_zero]; exact ih (k + 1) _ (by omega) hq
      · have c' : wI S k = -1 := c
        rw [if_pos c'] at hq
        rw [nI_1]; exact ih (k + 1) _ (by omega) hq
  have low : ∀ (m k : Nat) (a : Int32), k + m = 6 → Q (some (.inl (y_low S m k a))) μ → si_W sc (d + 3) 206 91 [some (.inr (.inr (7, 0))), some (.inl 1), some (.inl a), some (.inl (nI k))] [] μ Q := by
    intro m
    induction m with
    | zero => exact fun k a hk hq => k_X7_tellsOf_91 ⟨fun _ => hq, fun hn => absurd ((n6 (by omega)).mpr (by omega)) hn⟩
    | succ m ih =>
      intro k a hk hq
      have ck : (nI k).toNatClampNeg = k := nI_c (by omega)
      rw [y_low] at hq
      refine k_X7_tellsOf_91 ⟨fun hn => absurd ((n6 (by omega)).mp hn) (by omega), fun _ => ⟨fun _ => ⟨vp_in_nI (by omega) (by omega), ?_⟩, fun c => absurd c (by decide)⟩⟩
      rw [ck, hR.2.1, (hR.2.2.2.2.2.1 k (by omega)).1]
      refine ⟨fun c => ?_, fun c => ?_⟩
      · have c' : S 2 3 ≤ S 14 k := c
        rw [if_pos c'] at hq
        rw [nI_1, Int32.add_zero]; exact ih (k + 1) _ (by omega) hq
      · have c' : ¬ S 2 3 ≤ S 14 k := c
        rw [if_neg c'] at hq
        rw [nI_1]; exact ih (k + 1) _ (by omega) hq
  have e9 : (9 : Int32) = nI 9 := rfl
  have e10 : (10 : Int32) = nI 10 := rfl
  have e20 : (20 : Int32) = nI 20 := rfl
  have e30 : (30 : Int32) = nI 30 := rfl
  rcases rT_n h.2.1 hT with h4 | ⟨k, hk, rfl⟩ | ⟨k, hk, rfl⟩ | ⟨k, hk, rfl⟩
  · rcases nI_small (k := 0) h4 with rfl | rfl | rfl | rfl | rfl
    · exact k_X7_tellsOf_0 ⟨fun _ => ⟨fun _ => free 6 0 0 (by omega) hq, fun c => absurd (by decide) c⟩, fun c => absurd (by decide) c⟩
    · exact k_X7_tellsOf_0 ⟨fun _ => ⟨fun _ => low 6 0 0 (by omega) hq, fun c => absurd (by decide) c⟩, fun c => absurd (by decide) c⟩
    · exact k_X7_tellsOf_0 ⟨fun _ => ⟨fun c => absurd c (by decide), fun _ => ⟨fun c => absurd rfl c, fun _ => r_howMany hR h.2.1 (k_X7_tellsOf_66 (k_X7_tellsOf_86 hq))⟩⟩, fun c => absurd (by decide) c⟩
    · exact k_X7_tellsOf_0 ⟨fun _ => ⟨fun c => absurd c (by decide), fun _ => ⟨fun _ => ⟨fun c => absurd rfl c, fun _ => r_howMany hR h.2.1 (k_X7_tellsOf_79 (k_X7_tellsOf_86 hq))⟩, fun c => absurd c (by decide)⟩⟩, fun c => absurd (by decide) c⟩
    · exact k_X7_tellsOf_0 ⟨fun _ => ⟨fun c => absurd c (by decide), fun _ => ⟨fun _ => ⟨fun _ => r_well h (k_X7_tellsOf_86 hq), fun c => absurd c (by decide)⟩, fun c => absurd c (by decide)⟩⟩, fun c => absurd (by decide) c⟩
  · rw [(tell_1 hk).1] at hq
    refine k_X7_tellsOf_0 ?_
    rw [e9, e20, e10, nI_le8 (by omega) (by omega), nI_le8 (by omega) (by omega), pk_sub (a := 10 + k) (b := 10) (by omega), show 10 + k - 10 = k by omega, nI_c (by omega)]
    refine ⟨fun c => absurd c (by omega), fun _ => ⟨fun c => absurd c (by omega), fun _ => ⟨vp_in_nI (by omega) (by omega), k_X7_tellsOf_49 ?_⟩⟩⟩
    rw [(hR.2.2.2.2.2.1 k hk).1]; exact hq
  · rw [(tell_2 hk).1] at hq
    refine k_X7_tellsOf_0 ?_
    rw [e9, e20, e30, nI_le8 (by omega) (by omega), nI_le8 (by omega) (by omega), nI_le8 (by omega) (by omega), pk_sub (a := 20 + k) (b := 20) (by omega), show 20 + k - 20 = k by omega]
    exact ⟨fun c => absurd c (by omega), fun _ => ⟨fun _ => ⟨fun c => absurd c (by omega), fun _ => r_whose hR h.2.1 (k_X7_tellsOf_38 (k_X7_tellsOf_49 hq))⟩, fun c => absurd (by omega) c⟩⟩
  · rw [(tell_3 (by omega)).1] at hq
    refine k_X7_tellsOf_0 ?_
    rw [e9, e20, e30, nI_le8 (by omega) (by omega), nI_le8 (by omega) (by omega), nI_le8 (by omega) (by omega), pk_sub (a := 30 + k) (b := 30) (by omega), show 30 + k - 30 = k by omega]
    exact ⟨fun c => absurd c (by omega), fun _ => ⟨fun _ => ⟨fun _ => r_stripOf hR hk h8 (k_X7_tellsOf_49 hq), fun c => absurd (by omega) c⟩, fun c => absurd (by omega) c⟩⟩
theorem c4_ : si_c64 14 = (4 : Int32).toInt64 := by decide +kernel
theorem c10_ : si_c64 6 = (10 : Int32).toInt64 := by decide +kernel
theorem c15_ : si_c64 15 = (15 : Int32).toInt64 := by decide +kernel
theorem c20_ : si_c64 16 = (20 : Int32).toInt64 := by decide +kernel
theorem c25_ : si_c64 17 = (25 : Int32).toInt64 := by decide +kernel
theorem c30_ : si_c64 18 = (30 : Int32).toInt64 := by decide +kernel
theorem c37_ : si_c64 19 = (37 : Int32).toInt64 := by decide +kernel
theorem rt4 (hw : gw S n) : (30 ≤ x ∧ x ≤ 37 → (isP S (x - 30) ↔ (30 ≤ x ∧ x ≤ 29 + nI (gP S)))) ∧ ((30 ≤ x ∧ x ≤ 29 + nI (gP S)) → 30 ≤ x ∧ x ≤ 37) := by
  have h8 := hw.1
  have e29 : (29 : Int32) = nI 29 := rfl
  have e30 : (30 : Int32) = nI 30 := rfl
  have e37 : (37 : Int32) = nI 37 := rfl
  have e0 : (0 : Int32) = nI 0 := rfl
  have es : (29 : Int32) + nI (gP S) = nI (29 + gP S) := nI_add 29 (gP S)
  constructor
  · intro hb
    have hk := rg_n (A := 37) (lo := 30) (hi := 37) (by decide) (by decide) hb
    generalize x.toNatClampNeg = k at hk
    obtain ⟨h1, rfl, h2⟩ := hk
    have h2' : 30 ≤ k := by
      have e : (30 : Int32).toInt = 30 := by decide
      rw [e] at h2; omega
    unfold isP
    rw [es, e30, pk_sub (by omega), e0, nI_le8 (by omega) (by omega), nI_lt8 (by omega) (by omega), nI_le8 (by omega) (by omega), nI_le8 (by omega) (by omega)]
    omega
  · intro hb
    refine ⟨hb.1, ?_⟩
    have h2 := hb.2
    rw [es, i_le, nI_toInt (by omega)] at h2
    rw [e37, i_le, nI_toInt (by omega)]
    omega
theorem rT_P (e : gP S' = gP S) (h : runT S x) : runT S' x := by unfold runT at *; rw [e]; exact h
theorem rc_run (h : RI μ n V S K R zz f) (hq : ∀ μ', rf μ μ' → RI μ' n V S K R zz f → Q (some (.inl (A_run V S y x))) μ') : si_W sc (d + 47) 207 0 [some (.inr (.inr (7, 0))), some (.inl y), some (.inl x), none, none] [] μ Q := by
  unfold A_run at hq
  have hbad : ¬ ((0 ≤ y ∧ y ≤ 30) ∧ runT S x) → Q (some (.inl (-2))) μ := fun c => by
    rw [ic_f c] at hq; exact hq μ rf.refl h
  have s80 : ∀ (a3 : Int32), ((a3 = 1 ∧ runT S x) ∨ (a3 = 0 ∧ ¬ runT S x)) → si_W sc (d + 47) 207 80 [some (.inr (.inr (7, 0))), some (.inl y), some (.inl x), some (.inl a3), none] [.inl (bc (0 ≤ y ∧ y ≤ 30))] μ Q := fun a3 ha => by
    refine k_X7_run_80 ⟨fun c => hbad (fun a => bc_0 c a.1), fun c => ⟨fun ne => ?_, fun e0 => hbad (fun a => ?_)⟩⟩
    · have hy := bc_n c
      have hT : runT S x := by
        rcases ha with a | a
        · exact a.2
        · exact absurd a.1 ne
      have hc : (0 ≤ y ∧ y ≤ 30) ∧ runT S x := ⟨hy, hT⟩
      rw [ic_t hc] at hq
      obtain ⟨N, hN, rfl⟩ := sp_n hy
      rw [tN N hN] at hq
      refine r_aside h.1 fun μ1 t1 h1 => k_X7_run_94 ?_
      have lp : ∀ (m k : Nat) (S1 : gS) (μ1 : si_Mm), k + m = N → gP S1 = gP S → TH μ μ1 → RG μ1 n V S1 → (∀ μ', fw μ μ' → Q (some (.inl (y_tell (y_ys V m S1) x))) μ') → si_W sc (d + 47) 207 97 [some (.inr (.inr (7, 0))), some (.inl (nI N)), some (.inl x), some (.inl a3), some (.inl (nI k))] [] μ1 Q := by
        intro m
        induction m with
        | zero =>
          intro k S1 μ1 hk eP t1 h1 hq
          refine k_X7_run_97 ⟨fun _ => r_tellsOf h1 (rT_P eP hT) (k_X7_run_118 (r_back1 t1 fun μ' f' _ => k_X7_run_124 (hq μ' f'))), fun hn => absurd ?_ hn⟩
          rw [nI_le8 (by omega) (by omega)]; omega
        | succ m ih =>
          intro k S1 μ1 hk eP t1 h1 hq
          refine k_X7_run_97 ⟨fun hn => ?_, fun _ => r_lives h1 fun μ2 f2 h2 => k_X7_run_107 ?_⟩
          · rw [nI_le8 (by omega) (by omega)] at hn; omega
          · rw [nI_1]
            exact ih (k + 1) _ μ2 (by omega) ((gP_ys 1 S1).trans eP) (t1.g f2) h2 hq
      exact lp N 0 S μ1 (by omega) rfl t1 h1 (fun μ' f' => hq μ' (rf_of f'.t.o) (h.t f'.t))
    · rcases ha with b | b
      · exact absurd (b.1.symm.trans e0) (by decide)
      · exact b.2 a.2
  have hw := h.1.2.1
  refine k_X7_run_0 (r_in l0 c4_ (k_X7_run_9 ⟨fun c => r_in l0 c30_ (s80 1 (Or.inl ⟨rfl, Or.inl (bc_n c)⟩)), fun c1 => r_in c10_ c15_ (k_X7_run_23 ⟨fun c => r_in l0 c30_ (s80 1 (Or.inl ⟨rfl, Or.inr (Or.inl (bc_n c))⟩)), fun c2 => r_in c20_ c25_ (k_X7_run_37 ⟨fun c => r_in l0 c30_ (s80 1 (Or.inl ⟨rfl, Or.inr (Or.inr (Or.inl (bc_n c)))⟩)), fun c3 => r_in c30_ c37_ (k_X7_run_51 ⟨fun c4 => r_in l0 c30_ (s80 0 (Or.inr ⟨rfl, fun q => ?_⟩)), fun c4 => r_isOne h.1.1 hw (k_X7_run_62 ⟨fun c5 => r_in l0 c30_ (s80 0 (Or.inr ⟨rfl, fun q => ?_⟩)), fun c5 => r_in l0 c30_ (s80 1 (Or.inl ⟨rfl, ?_⟩))⟩)⟩)⟩)⟩)⟩))
  · rcases q with q | q | q | q
    · exact bc_0 c1 q
    · exact bc_0 c2 q
    · exact bc_0 c3 q
    · exact bc_0 c4 ((rt4 hw).2 q)
  · rcases q with q | q | q | q
    · exact bc_0 c1 q
    · exact bc_0 c2 q
    · exact bc_0 c3 q
    · exact bc_0 c5 (((rt4 hw).1 (bc_n c4)).mpr q)
  · exact Or.inr (Or.inr (Or.inr (((rt4 hw).1 (bc_n c4)).mp (bc_n c5))))
theorem rc_takes (h : RI μ n V S K R zz f) (hq : ∀ μ', rf μ μ' → RI μ' n V S K R zz f → Q (some (.inl (A_takes V S o))) μ') : si_W sc (d + 46) 208 0 [some (.inr (.inr (7, 0))), some (.inl o), none] [] μ Q := by
  unfold A_takes at hq
  have h8 := h.1.2.1.1
  refine k_X7_takes_0 (r_isOne h.1.1 h.1.2.1 (k_X7_takes_5 ⟨fun c => ?_, fun c => ?_⟩))
  · have hP := bc_n c
    rw [ic_t hP] at hq
    have hp := isP_c h.1.2.1 hP
    generalize o.toNatClampNeg = p at hp hq
    obtain ⟨hpP, rfl⟩ := hp
    have cp : (nI p).toNatClampNeg = p := nI_c (by omega)
    have e30 : (30 : Int32) = nI 30 := rfl
    refine r_aside h.1 fun μ1 t1 h1 => k_X7_takes_15 ?_
    have wt : ∀ {S1 : gS} (eP : gP S1 = gP S) {b : Int32} (hb : b = bc (isP S1 (nI p) ∧ S1 18 (nI p).toNatClampNeg = -1)), (b = 0 → ¬ S1 18 p = -1) ∧ (¬ b = 0 → S1 18 p = -1) := fun {S1} eP b hb => by
      rw [hb, cp]
      exact ⟨fun c q => bc_0 c ⟨isP_nI (by omega) (by omega), q⟩, fun c => (bc_n c).2⟩
    have lp : ∀ (m k : Nat) (S1 : gS) (μ1 : si_Mm), k + m = 30 → gP S1 = gP S → TH μ μ1 → RG μ1 n V S1 → (∀ μ', fw μ μ' → Q (some (.inl (y_tk V p m k S1))) μ') → si_W sc (d + 46) 208 17 [some (.inr (.inr (7, 0))), some (.inl (nI p)), some (.inl (nI k))] [] μ1 Q := by
      intro m
      induction m with
      | zero =>
        intro k S1 μ1 hk eP t1 h1 hq
        have ek : k = 30 := by omega
        subst ek
        rw [y_tk] at hq
        refine k_X7_takes_17 ⟨fun hn => absurd hn (by decide), fun _ => r_waits h1.1 h1.2.1 (k_X7_takes_28 ⟨fun c => r_back1 t1 fun μ' f' _ => k_X7_takes_45 ⟨fun _ => ?_, fun c => absurd (by decide) c⟩, fun c => r_lives h1 fun μ2 f2 h2 => k_X7_takes_35 (k_X7_takes_17 ⟨fun _ => r_back1 (t1.g f2) fun μ' f' _ => k_X7_takes_45 ⟨fun c => absurd c (by decide), fun _ => ?_⟩, fun c => absurd (by decide) c⟩)⟩)⟩
        · have q := hq μ' f'
          have cc : ¬ S1 18 p = -1 := (wt eP rfl).1 c
          rw [if_neg cc] at q; exact q
        · have q := hq μ' f'
          have cc : S1 18 p = -1 := (wt eP rfl).2 c
          rw [if_pos cc] at q; exact q
      | succ m ih =>
        intro k S1 μ1 hk eP t1 h1 hq
        rw [y_tk] at hq
        refine k_X7_takes_17 ⟨fun hn => ?_, fun _ => r_waits h1.1 h1.2.1 (k_X7_takes_28 ⟨fun c => r_back1 t1 fun μ' f' _ => k_X7_takes_45 ⟨fun _ => ?_, fun c => absurd ?_ c⟩, fun c => r_lives h1 fun μ2 f2 h2 => k_X7_takes_35 ?_⟩)⟩
        · rw [e30, nI_lt8 (by omega) (by omega)] at hn; omega
        · have q := hq μ' f'
          have cc : ¬ S1 18 p = -1 := (wt eP rfl).1 c
          rw [if_neg cc] at q; exact q
        · rw [e30, nI_le8 (by omega) (by omega)]; omega
        · have cc : S1 18 p = -1 := (wt eP rfl).2 c
          rw [if_pos cc] at hq
          rw [nI_1]
          exact ih (k + 1) _ μ2 (by omega) ((gP_ys 1 S1).trans eP) (t1.g f2) h2 hq
    exact lp 30 0 S μ1 (by omega) rfl t1 h1 (fun μ' f' => hq μ' (rf_of f'.t.o) (h.t f'.t))
  · rw [ic_f (bc_0 c)] at hq; exact hq μ rf.refl h
end RX4
