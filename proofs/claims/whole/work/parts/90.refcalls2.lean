/-! the reference: set, tenant, give, strikeOff, feed, force, year, count, taken -/
theorem mo_l {v' : Int32} {k : Nat} (hk : k ≤ 8) : ((if (nI k : Int32) = 2 then (1 : Int32) else 0) ≤ v' ∧ v' ≤ (if k = 0 ∨ k = 6 ∨ k = 8 then (999 : Int32) else if k = 1 ∨ k = 3 then 99 else if k = 4 then 1 else 9)) ↔ mb (nI k) v' := by
  rcases (show k = 0 ∨ k = 1 ∨ k = 2 ∨ k = 3 ∨ k = 4 ∨ k = 5 ∨ k = 6 ∨ k = 7 ∨ k = 8 by omega) with rfl | rfl | rfl | rfl | rfl | rfl | rfl | rfl | rfl <;> exact Iff.rfl
theorem ys_l {S : gS} {o v : Int32} {k : Nat} (hk : k ≤ 8) : y_set S (nI k) o v = (if k = 0 then upS S 2 2 v else if k = 1 then upS S 2 3 v else if k = 2 then upS S 2 4 v else if k = 3 then upS S 14 o.toNatClampNeg v else if k = 4 then upS S 15 o.toNatClampNeg v else if k = 5 then upS S 17 o.toNatClampNeg v else if k = 6 then upS S 19 o.toNatClampNeg v else if k = 7 then upS S 20 o.toNatClampNeg v else upS S 21 o.toNatClampNeg v) := by
  rcases (show k = 0 ∨ k = 1 ∨ k = 2 ∨ k = 3 ∨ k = 4 ∨ k = 5 ∨ k = 6 ∨ k = 7 ∨ k = 8 by omega) with rfl | rfl | rfl | rfl | rfl | rfl | rfl | rfl | rfl <;> rfl
section RX2
variable {sc : si_Sc} {d : Nat} {μ μ' : si_Mm} {Q : si_Po} {n : Nat} {V : VT} {S S' : gS} {K : Option gS} {R : shT} {zz : Nat} {f : Nat → Int32} {w o v x y : Int32}
theorem ys_kP {k : Nat} (hk : k ≤ 8) : gP (y_set S (nI k) o v) = gP S ∧ (y_set S (nI k) o v) 16 = S 16 := by
  rw [ys_l hk]
  rcases (show k = 0 ∨ k = 1 ∨ k = 2 ∨ k = 3 ∨ k = 4 ∨ k = 5 ∨ k = 6 ∨ k = 7 ∨ k = 8 by omega) with rfl | rfl | rfl | rfl | rfl | rfl | rfl | rfl | rfl
  · show gP (upS S 2 2 v) = gP S ∧ (upS S 2 2 v) 16 = S 16
    exact ⟨gP2 (by decide), upS_ne (by decide)⟩
  · show gP (upS S 2 3 v) = gP S ∧ (upS S 2 3 v) 16 = S 16
    exact ⟨gP2 (by decide), upS_ne (by decide)⟩
  · show gP (upS S 2 4 v) = gP S ∧ (upS S 2 4 v) 16 = S 16
    exact ⟨gP2 (by decide), upS_ne (by decide)⟩
  · show gP (upS S 14 o.toNatClampNeg v) = gP S ∧ (upS S 14 o.toNatClampNeg v) 16 = S 16
    exact ⟨gP_up (by decide), upS_ne (by decide)⟩
  · show gP (upS S 15 o.toNatClampNeg v) = gP S ∧ (upS S 15 o.toNatClampNeg v) 16 = S 16
    exact ⟨gP_up (by decide), upS_ne (by decide)⟩
  · show gP (upS S 17 o.toNatClampNeg v) = gP S ∧ (upS S 17 o.toNatClampNeg v) 16 = S 16
    exact ⟨gP_up (by decide), upS_ne (by decide)⟩
  · show gP (upS S 19 o.toNatClampNeg v) = gP S ∧ (upS S 19 o.toNatClampNeg v) 16 = S 16
    exact ⟨gP_up (by decide), upS_ne (by decide)⟩
  · show gP (upS S 20 o.toNatClampNeg v) = gP S ∧ (upS S 20 o.toNatClampNeg v) 16 = S 16
    exact ⟨gP_up (by decide), upS_ne (by decide)⟩
  · show gP (upS S 21 o.toNatClampNeg v) = gP S ∧ (upS S 21 o.toNatClampNeg v) 16 = S 16
    exact ⟨gP_up (by decide), upS_ne (by decide)⟩
set_option maxHeartbeats 1000000 in
theorem r_lays {k : Nat} (hR : RV μ S) (hw : gw S n) (hk : k ≤ 8) (hkn : kn S (nI k) o) (hq : ∀ μ', fx Jo Ao μ μ' → RV μ' (y_set S (nI k) o v) → μ'.1 29 0 = μ.1 29 0 → μ'.1 30 0 = μ.1 30 0 → Q none μ') : si_W sc (d + 1) 185 0 [some (.inr (.inr (7, 0))), some (.inl (nI k)), some (.inl o), some (.inl v)] [] μ Q := by
  have h8 := hw.1
  rw [ys_l hk] at hq
  have hkn' := (kn_l (S := S) (o := o) (show k ≤ 13 by omega)).mp hkn
  have e0 : (0 : Int32) = nI 0 := rfl
  have e1 : (1 : Int32) = nI 1 := rfl
  have e2 : (2 : Int32) = nI 2 := rfl
  have e3 : (3 : Int32) = nI 3 := rfl
  have e4 : (4 : Int32) = nI 4 := rfl
  have e5 : (5 : Int32) = nI 5 := rfl
  have e9 : (9 : Int32) = nI 9 := rfl
  have f0 : nI k = 0 ↔ k = 0 := by rw [e0]; exact nIe (by omega) (by omega)
  have f1 : nI k = 1 ↔ k = 1 := by rw [e1]; exact nIe (by omega) (by omega)
  have f2 : nI k = 2 ↔ k = 2 := by rw [e2]; exact nIe (by omega) (by omega)
  have f3 : nI k = 3 ↔ k = 3 := by rw [e3]; exact nIe (by omega) (by omega)
  have f4 : nI k = 4 ↔ k = 4 := by rw [e4]; exact nIe (by omega) (by omega)
  have f5 : nI k = 5 ↔ k = 5 := by rw [e5]; exact nIe (by omega) (by omega)
  have f9 : (9 : Int32) ≤ nI k ↔ 9 ≤ k := by rw [e9]; exact nI_le8 (by omega) (by omega)
  have per : (isP S o) → ∃ p, p < gP S ∧ o = nI p ∧ o.toNatClampNeg = p := fun hp => by
    have := isP_c hw hp
    exact ⟨_, this.1, this.2, rfl⟩
  have t7 : ∀ (μ1 : si_Mm) (a k' : Nat) (v' : Int32), a ≠ 29 → a ≠ 30 → (si_ms μ1 a 0 k' v').1 29 0 = μ1.1 29 0 ∧ (si_ms μ1 a 0 k' v').1 30 0 = μ1.1 30 0 := fun μ1 a k' v' h1 h2 => ⟨si_ms_ne _ _ _ (fun q => h1 (congrArg Prod.fst q).symm), si_ms_ne _ _ _ (fun q => h2 (congrArg Prod.fst q).symm)⟩
  refine k_X7_lays_0 ?_
  rw [f0, f1, f2, f3, f4, f5, f9]
  refine ⟨fun n0 => ⟨fun n1 => ⟨fun n2 => ⟨fun n3 => ⟨fun n4 => ⟨fun n5 => ⟨fun c9 => by omega, fun _ => ?_⟩, fun c => ?_⟩, fun c => ?_⟩, fun c => ?_⟩, fun c => ?_⟩, fun c => ?_⟩, fun c => ?_⟩
  · have hP : isP S o := by
      rw [if_neg (by omega), if_neg (by omega), if_neg (by omega)] at hkn'
      by_cases c8 : k = 8
      · rw [if_pos c8] at hkn'; exact hkn'.1
      · rw [if_neg c8] at hkn'; exact hkn'.1
    obtain ⟨p, hp, rfl, ep⟩ := per hP
    refine k_X7_at_0 (k_X7_lays_100 ?_)
    rw [e5, pk_sub (by omega), at_n, nI_c (by omega)]
    refine ⟨vp_in_nI (by omega) (by omega), hq _ (fx.oa (by omega)) ?_ (t7 _ _ _ _ (by decide) (by decide)).1 (t7 _ _ _ _ (by decide) (by decide)).2⟩
    rw [ep]
    rcases (show k = 6 ∨ k = 7 ∨ k = 8 by omega) with rfl | rfl | rfl
    · exact hR.pe (by omega)
    · exact hR.pe (by omega)
    · exact hR.pe (by omega)
  · subst c
    rw [if_neg (by decide), if_neg (by decide), if_pos (by decide)] at hkn'
    obtain ⟨p, hp, rfl, ep⟩ := per hkn'
    rw [ep] at hq ⊢
    exact ⟨vp_in_nI (by omega) (by omega), hq _ (fx.oa (by omega)) (hR.pe (by omega)) (t7 _ _ _ _ (by decide) (by decide)).1 (t7 _ _ _ _ (by decide) (by decide)).2⟩
  · subst c
    rw [if_neg (by decide), if_pos (by decide)] at hkn'
    obtain ⟨s, hs, rfl⟩ := st_n hkn'
    rw [nI_c (by omega)] at hq ⊢
    exact ⟨vp_in_nI (by omega) (by omega), hq _ (fx.oa (by omega)) hR.r15 (t7 _ _ _ _ (by decide) (by decide)).1 (t7 _ _ _ _ (by decide) (by decide)).2⟩
  · subst c
    rw [if_neg (by decide), if_pos (by decide)] at hkn'
    obtain ⟨s, hs, rfl⟩ := st_n hkn'
    rw [nI_c (by omega)] at hq ⊢
    exact ⟨vp_in_nI (by omega) (by omega), hq _ (fx.oa (by omega)) (hR.r14 hs) (t7 _ _ _ _ (by decide) (by decide)).1 (t7 _ _ _ _ (by decide) (by decide)).2⟩
  · subst c; exact hq _ (fx.o1 (by omega)) (hR.f (by omega)) (t7 _ _ _ _ (by decide) (by decide)).1 (t7 _ _ _ _ (by decide) (by decide)).2
  · subst c; exact hq _ (fx.o1 (by omega)) (hR.f (by omega)) (t7 _ _ _ _ (by decide) (by decide)).1 (t7 _ _ _ _ (by decide) (by decide)).2
  · subst c; exact hq _ (fx.o1 (by omega)) (hR.f (by omega)) (t7 _ _ _ _ (by decide) (by decide)).1 (t7 _ _ _ _ (by decide) (by decide)).2
theorem r_mostOf {k : Nat} (hk : k ≤ 8) (hq : Q (some (.inl (if k = 0 ∨ k = 6 ∨ k = 8 then (999 : Int32) else if k = 1 ∨ k = 3 then 99 else if k = 4 then 1 else 9))) μ) : si_W sc d 133 0 [some (.inl (nI k))] [] μ Q := by
  have e0 : (0 : Int32) = nI 0 := rfl
  have e1 : (1 : Int32) = nI 1 := rfl
  have e3 : (3 : Int32) = nI 3 := rfl
  have e4 : (4 : Int32) = nI 4 := rfl
  have e6 : (6 : Int32) = nI 6 := rfl
  have e8 : (8 : Int32) = nI 8 := rfl
  have f0 : nI k = 0 ↔ k = 0 := by rw [e0]; exact nIe (by omega) (by omega)
  have f1 : nI k = 1 ↔ k = 1 := by rw [e1]; exact nIe (by omega) (by omega)
  have f3 : nI k = 3 ↔ k = 3 := by rw [e3]; exact nIe (by omega) (by omega)
  have f4 : nI k = 4 ↔ k = 4 := by rw [e4]; exact nIe (by omega) (by omega)
  have f6 : nI k = 6 ↔ k = 6 := by rw [e6]; exact nIe (by omega) (by omega)
  have f8 : nI k = 8 ↔ k = 8 := by rw [e8]; exact nIe (by omega) (by omega)
  refine k_X7_mostOf_0 ?_
  rw [f0, f1, f3, f4, f6, f8]
  refine ⟨fun c => ?_, fun n0 => ⟨fun c => ?_, fun n6 => ⟨fun n8 => ⟨fun c => ?_, fun n1 => ⟨fun n3 => ⟨fun n4 => ?_, fun c => ?_⟩, fun c => ?_⟩⟩, fun c => ?_⟩⟩⟩
  · rw [if_pos (by omega)] at hq; exact hq
  · rw [if_pos (by omega)] at hq; exact hq
  · rw [if_neg (by omega), if_pos (by omega)] at hq; exact hq
  · rw [if_neg (by omega), if_neg (by omega), if_neg n4] at hq; exact hq
  · rw [if_neg (by omega), if_neg (by omega), if_pos c] at hq; exact hq
  · rw [if_neg (by omega), if_pos (by omega)] at hq; exact hq
  · rw [if_pos (by omega)] at hq; exact hq
theorem rc_set (h : RI μ n V S K R zz f) (hw' : gw (N_set S w o v) n) (hr' : gr (N_set S w o v)) (hq : ∀ μ', rf μ μ' → RI μ' n V (N_set S w o v) K R zz f → Q (some (.inl (A_set V S w o v))) μ') : si_W sc (d + 45) 186 0 [some (.inr (.inr (7, 0))), some (.inl w), some (.inl o), some (.inl v), none] [] μ Q := by
  have bad : ¬ (mb w v ∧ kn S w o) → Q (some (.inl (-2))) μ := fun hn => by
    have q := hq μ rf.refl
    unfold A_set N_set at q
    rw [ic_f hn, ic_f hn] at q
    exact q h
  by_cases b : 0 ≤ w ∧ w ≤ 8
  · have hk := rg_n (A := 8) (lo := 0) (hi := 8) (by decide) (by decide) b
    generalize w.toNatClampNeg = k at hk
    obtain ⟨hk, rfl, _⟩ := hk
    have e2 : (2 : Int32) = nI 2 := rfl
    have fin : ∀ (y0 : Int64) (a0 : Int32), y0 = a0.toInt64 → a0 = (if (nI k : Int32) = 2 then (1 : Int32) else 0) → kn S (nI k) o → si_W sc (d + 44) 133 0 [some (.inl (nI k))] [] μ (fun rv μq => si_W sc (d + 45) 186 37 [some (.inr (.inr (7, 0))), some (.inl (nI k)), some (.inl o), some (.inl v), none] (si_rt rv [.inr (.inl y0), .inr (.inl (Int32.toInt64 v))]) μq Q) := by
      intro y0 a0 hy ha hkn
      refine r_mostOf hk (k_X7_set_37 (r_in hy rfl (k_X7_set_41 ⟨fun c => ?_, fun c => bad fun a => bc_0 c ?_⟩)))
      · have hm : mb (nI k) v := by
          have := bc_n c
          rw [ha] at this
          exact (mo_l hk).mp this
        have hc : mb (nI k) v ∧ kn S (nI k) o := ⟨hm, hkn⟩
        unfold A_set N_set at hq
        unfold N_set at hw' hr'
        rw [ic_t hc] at hw' hr'
        rw [ic_t hc, ic_t hc] at hq
        refine r_told h.1 (by omega) hkn fun μ1 f1 => k_X7_set_53 (r_lays (h.1.1.s f1 h.1.2.1.1) h.1.2.1 hk hkn fun μ2 f2 hR2 t1 t2 => k_X7_set_62 ?_)
        have f12 := f1.so.tr f2
        have hkP := ys_kP (S := S) (o := o) (v := v) hk
        refine hq μ2 (rf_of f12) (h.g f12 ⟨hR2, hw', hr', h.1.2.2.2.1, ?_, h.1.2.2.2.2.2⟩ ⟨by rw [hkP.1]; exact Nat.le_refl _, fun p _ => by rw [hkP.2]⟩)
        exact (h.1.2.2.2.2.1.of (by funext j; exact f1 30 0 j (by omega) rfl) (by funext j; exact f1 29 0 j (by omega) rfl)).of t2 t1
      · rw [ha]; exact (mo_l hk).mpr a.1
    refine k_X7_set_0 (r_in (b := 8) l0 (by decide +kernel) (k_X7_set_9 ⟨fun c => absurd b (bc_0 c), fun _ => r_isOf h.1 (by omega) (k_X7_set_18 ⟨fun c => bad fun a => bc_0 c a.2, fun c => ⟨fun n2 => fin _ 0 l0 (by rw [if_neg n2]) (bc_n c), fun c2 => fin _ 1 l1 (by rw [if_pos c2]) (bc_n c)⟩⟩)⟩))
  · refine k_X7_set_0 (r_in (b := 8) l0 (by decide +kernel) (k_X7_set_9 ⟨fun _ => bad fun a => b ?_, fun c => absurd (bc_n c) b⟩))
    have hm := a.1
    unfold mb at hm
    by_cases c0 : w = 0
    · rw [c0]; decide
    by_cases c1 : w = 1
    · rw [c1]; decide
    by_cases c2 : w = 2
    · rw [c2]; decide
    by_cases c3 : w = 3
    · rw [c3]; decide
    by_cases c4 : w = 4
    · rw [c4]; decide
    by_cases c5 : w = 5
    · rw [c5]; decide
    by_cases c6 : w = 6
    · rw [c6]; decide
    by_cases c7 : w = 7
    · rw [c7]; decide
    by_cases c8 : w = 8
    · rw [c8]; decide
    rw [if_neg c0, if_neg c1, if_neg c2, if_neg c3, if_neg c4, if_neg c5, if_neg c6, if_neg c7, if_neg c8] at hm
    exact absurd hm id
theorem come_k (h8 : gP S < 8) : gP (y_come S x y) = gP S + 1 ∧ ∀ p, p < gP S → (y_come S x y) 16 p = S 16 p := by
  refine ⟨?_, fun p hp => ?_⟩
  · have e : (y_come S x y) 2 6 = nI (gP S + 1) := by unfold y_come; exact upS_eq
    unfold gP at *
    rw [e, nI_c (by omega)]
  · unfold y_come
    rw [upS_ne (by decide), upS_ne (by decide), upS_ne (by decide), upS_ne (by decide)]
    unfold upS
    rw [if_neg (by omega)]
set_option maxHeartbeats 1000000 in
theorem rc_tenant (h : RI μ n V S K R zz f) (hq : ∀ μ', rf μ μ' → RI μ' n V (N_ten S x y) K R zz f → Q (some (.inl (A_ten S x y))) μ') : si_W sc (d + 2) 188 0 [some (.inr (.inr (7, 0))), some (.inl x), some (.inl y)] [] μ Q := by
  have h8 := h.1.2.1.1
  have bad : ¬ okT x y → Q (some (.inl (-2))) μ := fun hn => by
    have q := hq μ rf.refl
    unfold A_ten N_ten at q
    rw [ic_f hn, ic_f hn] at q
    exact q h
  have e8 : (8 : Int32) = nI 8 := rfl
  refine k_X7_tenant_0 (r_in (b := 5) l0 (by decide +kernel) (k_X7_tenant_9 ⟨fun c => bad fun a => bc_0 c a.1, fun c => r_in (b := 9) l0 (by decide +kernel) (k_X7_tenant_21 ⟨fun c2 => ?_, fun c2 => bad fun a => bc_0 c2 a.2⟩)⟩))
  have hok : okT x y := ⟨bc_n c, bc_n c2⟩
  unfold A_ten N_ten at hq
  rw [ic_t hok, ic_t hok] at hq
  have eP := h.1.1.P h.1.2.1
  rw [eP, e8, nIe (by omega) (by omega)]
  refine ⟨fun c8 => ?_, fun c8 => ?_⟩
  · rw [ic_f c8, ic_f c8] at hq
    have hP : gP S < 8 := by omega
    have cP : (nI (gP S)).toNatClampNeg = gP S := nI_c (by omega)
    obtain ⟨g1, g2⟩ := gwr_come h.1.2.1 h.1.2.2.1 hok hP
    have m1 : (si_ms μ 33 0 (gP S) x).1 7 0 14 = nI (gP S) := by rw [ms_eq, if_neg (by omega)]; exact eP
    have m2 : (si_ms (si_ms μ 33 0 (gP S) x) 34 0 (gP S) y).1 7 0 14 = nI (gP S) := by rw [ms_eq, if_neg (by omega)]; exact m1
    rw [cP, m1, cP, m2]
    refine ⟨vp_in_nI (by omega) (by omega), vp_in_nI (by omega) (by omega), r_puts hP (k_X7_tenant_68 ?_)⟩
    have m3 : (pc3 (si_ms (si_ms μ 33 0 (gP S) x) 34 0 (gP S) y) (gP S) (-1)).1 7 0 14 = nI (gP S) := by rw [pc3_at, if_neg (by omega), if_neg (by omega), if_neg (by omega)]; exact m2
    rw [m3]
    refine k_X7_at_0 (k_X7_tenant_80 ?_)
    have c3 : (nI (6 + 4 * gP S + 3)).toNatClampNeg = 6 + 4 * gP S + 3 := nI_c (by omega)
    rw [at_3, c3]
    refine ⟨vp_in_nI (by omega) (by omega), ?_⟩
    have val : ∀ a i j, (si_ms (pc3 (si_ms (si_ms μ 33 0 (gP S) x) 34 0 (gP S) y) (gP S) (-1)) 35 0 (6 + 4 * gP S + 3) 0).1 a i j = if a = 35 ∧ i = 0 ∧ j = 6 + 4 * gP S + 3 then 0 else if a = 35 ∧ i = 0 ∧ j = 6 + 4 * gP S then -1 else if a = 35 ∧ i = 0 ∧ j = 6 + 4 * gP S + 1 then 0 else if a = 35 ∧ i = 0 ∧ j = 6 + 4 * gP S + 2 then 0 else if a = 34 ∧ i = 0 ∧ j = gP S then y else if a = 33 ∧ i = 0 ∧ j = gP S then x else μ.1 a i j := fun a i j => by rw [ms_eq, pc3_at, ms_eq, ms_eq]
    generalize si_ms (pc3 (si_ms (si_ms μ 33 0 (gP S) x) 34 0 (gP S) y) (gP S) (-1)) 35 0 (6 + 4 * gP S + 3) 0 = μ3 at val
    have m4 : μ3.1 7 0 14 = nI (gP S) := by rw [val, if_neg (by omega), if_neg (by omega), if_neg (by omega), if_neg (by omega), if_neg (by omega), if_neg (by omega)]; exact eP
    rw [m4, nI_1]
    have m5 : (si_ms μ3 7 0 14 (nI (gP S + 1))).1 7 0 14 = nI (gP S + 1) := by rw [ms_eq, if_pos ⟨rfl, rfl, rfl⟩]
    rw [m5, nI_pred]
    have val2 : ∀ a i j, ¬ (a = 7 ∧ i = 0 ∧ j = 14) → (si_ms μ3 7 0 14 (nI (gP S + 1))).1 a i j = if a = 35 ∧ i = 0 ∧ j = 6 + 4 * gP S + 3 then 0 else if a = 35 ∧ i = 0 ∧ j = 6 + 4 * gP S then -1 else if a = 35 ∧ i = 0 ∧ j = 6 + 4 * gP S + 1 then 0 else if a = 35 ∧ i = 0 ∧ j = 6 + 4 * gP S + 2 then 0 else if a = 34 ∧ i = 0 ∧ j = gP S then y else if a = 33 ∧ i = 0 ∧ j = gP S then x else μ.1 a i j := fun a i j ne => by rw [ms_eq, if_neg ne]; exact val a i j
    generalize si_ms μ3 7 0 14 (nI (gP S + 1)) = μ4 at m5 val2
    have oth : ∀ a i j, ¬ (a = 7 ∧ i = 0 ∧ j = 14) → ¬ (a = 35 ∧ i = 0 ∧ 6 + 4 * gP S ≤ j) → ¬ (a = 34 ∧ i = 0 ∧ j = gP S) → ¬ (a = 33 ∧ i = 0 ∧ j = gP S) → μ4.1 a i j = μ.1 a i j := fun a i j n1 n2 n3 n4 => by rw [val2 a i j n1, if_neg (by omega), if_neg (by omega), if_neg (by omega), if_neg (by omega), if_neg n3, if_neg n4]
    have hfx : fx Jo Ao μ μ4 := fun a i j e1 e2 => by
      have na : ¬ (32 ≤ a ∧ a ≤ 37) := fun q => by rw [Ao_i.mpr q] at e2; cases e2
      exact oth a i j (fun q => e1 ⟨q.1, q.2.1, Jo_i.mpr (by omega)⟩) (by omega) (by omega) (by omega)
    obtain ⟨kP, k16⟩ := come_k (x := x) (y := y) hP
    obtain ⟨a1, a2, a3, a4, a5, a6, a7⟩ := h.1.1
    have up2 : ∀ k, k ≠ 6 → (y_come S x y) 2 k = S 2 k := fun k hk => by unfold y_come upS; rw [if_neg (by omega), if_neg (by omega), if_neg (by omega), if_neg (by omega), if_neg (by omega)]
    refine hq μ4 (rf_of hfx) (h.g hfx ⟨⟨?_, ?_, ?_, ?_, ?_, fun s hs => ?_, fun p hp => ?_⟩, g1, g2, h.1.2.2.2.1, h.1.2.2.2.2.1.of (by funext j; exact oth 30 0 j (by omega) (by omega) (by omega) (by omega)) (by funext j; exact oth 29 0 j (by omega) (by omega) (by omega) (by omega)), h.1.2.2.2.2.2⟩ ⟨by omega, k16⟩)
    · rw [oth 7 0 7 (by omega) (by omega) (by omega) (by omega), up2 2 (by decide)]; exact a1
    · rw [oth 7 0 8 (by omega) (by omega) (by omega) (by omega), up2 3 (by decide)]; exact a2
    · rw [oth 7 0 9 (by omega) (by omega) (by omega) (by omega), up2 4 (by decide)]; exact a3
    · rw [oth 7 0 4 (by omega) (by omega) (by omega) (by omega), up2 5 (by decide)]; exact a4
    · rw [m5]; unfold y_come; rw [upS_eq]
    · rw [oth 35 0 s (by omega) (by omega) (by omega) (by omega), oth 32 0 s (by omega) (by omega) (by omega) (by omega)]
      unfold y_come
      rw [upS_ne (by decide), upS_ne (by decide), upS_ne (by decide), upS_ne (by decide), upS_ne (by decide), upS_ne (by decide), upS_ne (by decide), upS_ne (by decide), upS_ne (by decide), upS_ne (by decide)]
      exact a6 s hs
    · rw [kP] at hp
      by_cases e : p = gP S
      · subst e
        have y18 : (y_come S x y) 18 (gP S) = -1 := by unfold y_come upS; rw [if_neg (by omega), if_neg (by omega), if_pos ⟨rfl, rfl⟩]
        refine ⟨?_, ?_, ?_, ?_, ?_⟩
        · rw [val2 33 0 _ (by omega), if_neg (by omega), if_neg (by omega), if_neg (by omega), if_neg (by omega), if_neg (by omega), if_pos ⟨rfl, rfl, rfl⟩]
          unfold y_come upS; rw [if_neg (by omega), if_neg (by omega), if_neg (by omega), if_neg (by omega), if_pos ⟨rfl, rfl⟩]
        · rw [val2 34 0 _ (by omega), if_neg (by omega), if_neg (by omega), if_neg (by omega), if_neg (by omega), if_pos ⟨rfl, rfl, rfl⟩]
          unfold y_come upS; rw [if_neg (by omega), if_neg (by omega), if_neg (by omega), if_pos ⟨rfl, rfl⟩]
        · rw [val2 35 0 _ (by omega), if_neg (by omega), if_pos ⟨rfl, rfl, rfl⟩, y18]
        · rw [val2 35 0 _ (by omega), if_pos ⟨rfl, rfl, rfl⟩]
          unfold y_come upS; rw [if_neg (by omega), if_pos ⟨rfl, rfl⟩]
        · rw [y18]; exact fun q => absurd q (by decide)
      · obtain ⟨b1, b2, b3, b4, b5⟩ := a7 p (by omega)
        have up : ∀ a, a ≠ 2 → (y_come S x y) a p = S a p := fun a ha => by unfold y_come upS; rw [if_neg (by omega), if_neg (by omega), if_neg (by omega), if_neg (by omega), if_neg (by omega)]
        rw [up 16 (by decide), up 17 (by decide), up 18 (by decide), up 19 (by decide), up 20 (by decide), up 21 (by decide), oth 33 0 p (by omega) (by omega) (by omega) (by omega), oth 34 0 p (by omega) (by omega) (by omega) (by omega), oth 35 0 _ (by omega) (by omega) (by omega) (by omega), oth 35 0 _ (by omega) (by omega) (by omega) (by omega), oth 35 0 _ (by omega) (by omega) (by omega) (by omega), oth 35 0 _ (by omega) (by omega) (by omega) (by omega)]
        exact ⟨b1, b2, b3, b4, b5⟩
  · rw [ic_t c8, ic_t c8] at hq
    exact hq μ rf.refl h
end RX2
