/-! Reader: denied, single, the levels, the text -/
section RG
variable {sc : si_Sc} {T W : Nat → Int32} {B : Nat → Nat} {nt : Nat} {o : Nat}
/-- what may stand one level deeper -/
def dpS (sc : si_Sc) (T W : Nat → Int32) (B : Nat → Nat) (nt D o j : Nat) (ex : List (Option si_AV)) (N : Option PF) : Prop := match N with
  | none => o = 5
  | some p => o < 5 ∧ pg nt p ∧ rdS sc T W B nt D j ex (o + 1) p
set_option maxHeartbeats 1000000 in
theorem c_denied {N : Option PF} {Dp : PF} {D : Nat} (h0 : ∀ k, nt ≤ k → T k = 0) (ho : o ≤ 5) (hD : 6 ≤ D) (hN : dpS sc T W B nt D o 46 [] N) (hpg : pg nt Dp) (hp : rdS sc T W B nt D 50 [none] o Dp) : rdS sc T W B nt (D + 1) 46 [] o (q_not T N Dp) := by
  intro d μ Q k u hd hpre hq
  obtain ⟨d1, rfl⟩ : ∃ d1, d = d1 + 7 := ⟨d - 7, by omega⟩
  have hpre5 := hpre.2.2.2.2.1
  have hkn := hpre.2.2.2.1
  unfold q_not at hq
  have fsd : ∀ μ1, FS T W B nt μ1 → Q none μ1 → si_W sc (d1 + 7) 46 33 [some (.inr (.inr (3, 0))), some (.inl (nI o))] [] μ1 Q := fun μ1 hf hq => k_X3_denied_33 (f_took hf (k_X3_denied_39 ⟨fun _ => f_took hf (k_X3_denied_65 ⟨fun _ => k_X3_denied_82 hq, fun c => absurd rfl c⟩), fun c => absurd rfl c⟩))
  refine k_X3_denied_0 (c_opened ho hpre (fun c => k_X3_denied_8 ⟨fun _ => ?_, fun c2 => absurd rfl c2⟩) (fun c ho5 => k_X3_denied_8 ⟨fun c2 => absurd c2 (by decide), fun _ => ?_⟩) (fun c ho5 μ1 p1 => k_X3_denied_8 ⟨fun _ => f_sum (PO.fs hpre.2.2.2.2.2 hkn p1) (fsd μ1 (PO.fs hpre.2.2.2.2.2 hkn p1) (hq μ1 ?_)), fun c2 => absurd rfl c2⟩))
  · rw [if_neg c] at hq
    refine hp (d1 + 6) μ _ k u (by omega) hpre fun μ1 q1 => ?_
    rcases hr : Dp k with ⟨k1, _ | cs⟩
    · rw [hr] at q1 hq
      have hk1 := pg_n hpg hkn hr
      exact fsd μ1 (PO.fs hpre.2.2.2.2.2 hk1.2 q1) (hq μ1 q1)
    · rw [hr] at q1 hq
      have hk1 := pg_s hpg hkn hr
      have E1 := q1.pre hpre hk1.2.1 (by omega)
      unfold q_b at hq
      dsimp only at hq
      refine k_X3_denied_33 (c_took E1 (fun c60 => k_X3_denied_39 ⟨fun _ => c_took E1 (fun c61 => k_X3_denied_65 ⟨fun _ => k_X3_denied_82 (hq μ1 ?_), fun c2 => absurd rfl c2⟩) (fun c61 => k_X3_denied_65 ⟨fun c2 => absurd c2 (by decide), fun _ => ?_⟩), fun c2 => absurd rfl c2⟩) (fun c60 => k_X3_denied_39 ⟨fun c2 => absurd c2 (by decide), fun _ => ?_⟩))
      · rw [if_neg c60, if_neg c61]; exact q1
      · rw [if_neg c60, if_pos c61] at hq
        have hlt := lt_T h0 (j := k1) (by rw [c61]; decide)
        refine hp (d1 + 6) _ _ (k1 + 1) (u + cs.length) (by omega) (took_PRE E1 hlt) fun μ2 q2 => k_X3_denied_73 ?_
        have P2 := took_PO q1
        rcases hr2 : Dp (k1 + 1) with ⟨k2, _ | ds⟩
        · rw [hr2] at q2 hq
          exact n_add (P2.trn q2) fun μ3 q3 => k_X3_denied_82 (hq μ3 q3)
        · rw [hr2] at q2 hq
          have hk2 := pg_s hpg (by omega) hr2
          refine c_add (P2.tr q2) (by rw [List.length_append]; omega) fun μ3 q3 => k_X3_denied_82 (hq μ3 ?_)
          rw [List.append_assoc] at q3; exact q3
      · rw [if_pos c60] at hq
        have hlt := lt_T h0 (j := k1) (by rw [c60]; decide)
        refine hp (d1 + 6) _ _ (k1 + 1) (u + cs.length) (by omega) (took_PRE E1 hlt) fun μ2 q2 => k_X3_denied_47 ?_
        have P2 := took_PO q1
        rcases hr2 : Dp (k1 + 1) with ⟨k2, _ | ds⟩
        · rw [hr2] at q2 hq
          exact n_add (P2.trn q2) fun μ3 q3 => k_X3_denied_56 (k_X3_denied_82 (hq μ3 q3))
        · rw [hr2] at q2 hq
          have hk2 := pg_s hpg (by omega) hr2
          refine c_add (P2.tr q2) (by rw [List.length_append]; omega) fun μ3 q3 => k_X3_denied_56 (k_X3_denied_82 (hq μ3 ?_))
          rw [List.append_assoc] at q3; exact q3
  · rw [if_pos c] at hq
    cases N with
    | none => exact absurd hN (by unfold dpS; omega)
    | some p =>
      obtain ⟨_, hpp, hpd⟩ := hN
      have hlt := lt_T h0 (j := k) (by rw [c]; decide)
      rw [nI_1]
      refine hpd (d1 + 6) _ _ (k + 1) u (by omega) (took_PRE hpre hlt) fun μ2 q2 => k_X3_denied_18 ?_
      have P2 : PO B μ (k + 1, some []) u (si_ms μ 3 0 2 (nI (k + 1))) := took_PO (PO.z hpre)
      dsimp only at hq
      rcases hr2 : p (k + 1) with ⟨k2, _ | ds⟩
      · rw [hr2] at q2 hq
        exact n_add (P2.trn q2) fun μ3 q3 => k_X3_denied_27 (hq μ3 q3)
      · rw [hr2] at q2 hq
        have hk2 := pg_s hpp (by omega) hr2
        exact c_add (P2.tr q2) (by rw [List.nil_append]; omega) fun μ3 q3 => k_X3_denied_27 (hq μ3 q3)
  · rw [if_pos c]
    cases N with
    | none => exact p1
    | some p => obtain ⟨h5, _⟩ := hN; omega
set_option maxHeartbeats 1000000 in
theorem c_single {A E : Option PF} {D : Nat} (h0 : ∀ k, nt ≤ k → T k = 0) (ho : o ≤ 5) (hD : 3 ≤ D) (hA : dpS sc T W B nt D o 49 [] A) (hE : dpS sc T W B nt D o 47 [none] E) : rdS sc T W B nt (D + 1) 49 [] o (q_atom T W A E) := by
  intro d μ Q k u hd hpre hq
  obtain ⟨d1, rfl⟩ : ∃ d1, d = d1 + 4 := ⟨d - 4, by omega⟩
  have hpre5 := hpre.2.2.2.2.1
  have hkn := hpre.2.2.2.1
  have ck : (nI k).toNatClampNeg = k := nI_c (by have := hpre.2.2.2.2.2.1; omega)
  have hl := hpre.2.2.2.2.2.1
  have hin : vp_in (nI k) 161 := vp_in_nI (by omega) (by omega)
  unfold q_atom at hq
  have fs36 : ∀ μ1, FS T W B nt μ1 → Q none μ1 → si_W sc (d1 + 4) 49 36 [some (.inr (.inr (3, 0))), some (.inl (nI o))] [.inl 0] μ1 Q := fun μ1 hf hq => k_X3_single_36 ⟨fun _ => ⟨fun _ => ⟨fun _ => f_fault hf (k_X3_single_154 hq), fun c => absurd c hf.2.1⟩, fun c => absurd c hf.2.1⟩, fun c => absurd rfl c⟩
  have P2 : T k ≠ 0 → PO B μ (k + 1, some []) u (si_ms μ 3 0 2 (nI (k + 1))) := fun _ => took_PO (PO.z hpre)
  refine k_X3_single_0 (c_opened ho hpre (fun c1 => k_X3_single_7 ⟨fun _ => ?_, fun c2 => absurd rfl c2⟩) (fun c1 ho5 => k_X3_single_7 ⟨fun c2 => absurd c2 (by decide), fun _ => ?_⟩) (fun c1 ho5 μ1 p1 => k_X3_single_7 ⟨fun _ => f_opened (PO.fs hpre.2.2.2.2.2 hkn p1) (fs36 μ1 (PO.fs hpre.2.2.2.2.2 hkn p1) (hq μ1 ?_)), fun c2 => absurd rfl c2⟩))
  · rw [if_neg c1] at hq
    refine c_opened ho hpre (fun c2 => k_X3_single_36 ⟨fun _ => ⟨fun cf => absurd hpre.2.1 cf, fun _ => c_isNext hpre (k_X3_single_68 ⟨fun c3 => ⟨fun cf => absurd hpre.2.1 cf, fun _ => ?_⟩, fun c3 => ?_⟩)⟩, fun c3 => absurd rfl c3⟩) (fun c2 ho5 => k_X3_single_36 ⟨fun c3 => absurd c3 (by decide), fun _ => ?_⟩) (fun c2 ho5 μ1 p1 => fs36 μ1 (PO.fs hpre.2.2.2.2.2 hkn p1) (hq μ1 ?_))
    · have c3' := bi_0.mp c3
      rw [if_neg c2, if_neg c3'] at hq
      refine k_X3_isNextName_0 ⟨fun hn => ?_, fun _ => ?_⟩
      · rw [hpre.2.2.2.2.2.2.1, hpre.1, nI_le8 (by omega) (by omega)] at hn; omega
      · rw [hpre.1, ck, (hpre.2.2.2.2.2.2.2 k hkn).1]
        refine ⟨hin, fun c4 => ⟨b0, ?_⟩, fun c4 => ⟨b1, ?_⟩⟩
        · rw [if_pos c4] at hq
          exact k_X3_single_115 ⟨fun _ => c_fault hpre fun μ1 p1 => k_X3_single_154 (hq μ1 p1), fun c5 => absurd rfl c5⟩
        · rw [if_neg c4] at hq
          refine k_X3_single_115 ⟨fun c5 => absurd c5 (by decide), fun _ => ?_⟩
          rw [hpre.1, ck, (hpre.2.2.2.2.2.2.2 k hkn).1]
          have hlt := lt_T h0 (j := k) (fun e => c4 (by rw [e]; decide))
          refine ⟨hin, c_add (PO.z hpre) (by rw [List.length_nil]; omega) fun μ1 p1 => k_X3_single_137 (k_X3_single_154 (hq _ ?_))⟩
          have p2 := took_PO p1
          rw [p1.1, nI_1]; exact p2
    · have c3' := bi_n c3
      rw [if_neg c2, if_pos c3'] at hq
      rw [hpre.1, ck, (hpre.2.2.2.2.2.2.2 k hkn).2.2.1 c3']
      have hlt := lt_T h0 (j := k) (by rw [c3']; decide)
      refine ⟨hin, c_add (PO.z hpre) (by rw [List.length_nil]; omega) fun μ1 p1 => k_X3_single_90 (k_X3_single_154 (hq _ ?_))⟩
      have p2 := took_PO p1
      rw [p1.1, nI_1]; exact p2
    · rw [if_pos c2] at hq
      cases E with
      | none => exact absurd hE (by unfold dpS; omega)
      | some p =>
        obtain ⟨_, hpp, hpd⟩ := hE
        have hlt := lt_T h0 (j := k) (by rw [c2]; decide)
        have hP2 := P2 (by rw [c2]; decide)
        rw [nI_1]
        refine hpd (d1 + 3) _ _ (k + 1) u (by omega) (took_PRE hpre hlt) fun μ2 q2 => k_X3_single_46 ?_
        dsimp only at hq
        rcases hr2 : p (k + 1) with ⟨k2, _ | ds⟩
        · rw [hr2] at q2 hq
          have hk2 := pg_n hpp (by omega) hr2
          have q3 := hP2.trn q2
          exact f_expect (PO.fs hpre.2.2.2.2.2 hk2.2 q3) (k_X3_single_52 (k_X3_single_154 (hq _ q3)))
        · rw [hr2] at q2 hq
          have hk2 := pg_s hpp (by omega) hr2
          have q3 := hP2.tr q2
          rw [List.nil_append] at q3
          unfold q_b at hq
          dsimp only at hq
          have E3 := q3.pre hpre hk2.2.1 (by omega)
          refine c_expect E3 (fun c4 μ4 q4 => k_X3_single_52 (k_X3_single_154 (hq μ4 ?_))) (fun c4 => k_X3_single_52 (k_X3_single_154 (hq _ ?_)))
          · rw [if_neg c4]; exact q3.trn q4
          · rw [if_pos c4]; exact took_PO q3
    · rw [if_pos c2]
      cases E with
      | none => exact p1
      | some p => obtain ⟨h5, _⟩ := hE; omega
  · rw [if_pos c1] at hq
    cases A with
    | none => exact absurd hA (by unfold dpS; omega)
    | some p =>
      obtain ⟨_, hpp, hpd⟩ := hA
      have hlt := lt_T h0 (j := k) (by rw [c1]; decide)
      have hP2 := P2 (by rw [c1]; decide)
      rw [nI_1]
      refine hpd (d1 + 3) _ _ (k + 1) u (by omega) (took_PRE hpre hlt) fun μ2 q2 => k_X3_single_17 ?_
      dsimp only at hq
      rcases hr2 : p (k + 1) with ⟨k2, _ | ds⟩
      · rw [hr2] at q2 hq
        exact n_add (hP2.trn q2) fun μ3 q3 => k_X3_single_26 (k_X3_single_154 (hq μ3 q3))
      · rw [hr2] at q2 hq
        have hk2 := pg_s hpp (by omega) hr2
        exact c_add (hP2.tr q2) (by rw [List.nil_append]; omega) fun μ3 q3 => k_X3_single_26 (k_X3_single_154 (hq μ3 q3))
  · rw [if_pos c1]
    cases A with
    | none => exact p1
    | some p => obtain ⟨h5, _⟩ := hA; omega
theorem rdS.mono {D D' j : Nat} {ex : List (Option si_AV)} {p : PF} (h : rdS sc T W B nt D j ex o p) (hd : D ≤ D') : rdS sc T W B nt D' j ex o p := fun d μ Q k u hdd => h d μ Q k u (by omega)
/-- all levels -/
theorem c_lv (h0 : ∀ k, nt ≤ k → T k = 0) : ∀ (m : Nat), m ≤ 5 → rdS sc T W B nt (6 * m + 4) 49 [] (5 - m) (q_A T W (q_L T W m)) ∧ rdS sc T W B nt (6 * m + 7) 46 [] (5 - m) (q_N T W (q_L T W m)) ∧ rdS sc T W B nt (6 * m + 9) 47 [none] (5 - m) (q_E T W (q_L T W m)) := by
  have up : ∀ (m : Nat), m ≤ 5 → rdS sc T W B nt (6 * m + 4) 49 [] (5 - m) (q_A T W (q_L T W m)) → dpS sc T W B nt (6 * m + 6) (5 - m) 46 [] ((q_L T W m).map (fun r => r.2.1)) → rdS sc T W B nt (6 * m + 7) 46 [] (5 - m) (q_N T W (q_L T W m)) ∧ rdS sc T W B nt (6 * m + 9) 47 [none] (5 - m) (q_E T W (q_L T W m)) := by
    intro m hm hA hN
    have hL := pg_L (W := W) h0 m
    have h1 := c_product h0 (pg_A h0 hL) (by omega) hA
    have h2 := c_sum h0 (pg_M h0 hL) (by omega) h1
    have h3 := c_denied h0 (by omega) (by omega) hN (pg_D h0 hL) h2
    have h4 := c_both h0 (pg_N h0 hL) (by omega) h3
    have h5 := c_either h0 (pg_B h0 hL) (by omega) h4
    exact ⟨h3, h5⟩
  intro m
  induction m with
  | zero =>
    intro hm
    have hA : rdS sc T W B nt (6 * 0 + 4) 49 [] (5 - 0) (q_A T W (q_L T W 0)) := c_single (D := 3) h0 (by omega) (by omega) rfl rfl
    have := up 0 hm hA rfl
    exact ⟨hA, this.1, this.2⟩
  | succ m ih =>
    intro hm
    obtain ⟨i1, i2, i3⟩ := ih (by omega)
    have hL := pg_L (W := W) h0 m
    have e5 : 5 - m = 5 - (m + 1) + 1 := by omega
    rw [e5] at i1 i2 i3
    have a1 : dpS sc T W B nt (6 * m + 9) (5 - (m + 1)) 49 [] (some (q_A T W (q_L T W m))) := ⟨by omega, pg_A h0 hL, i1.mono (by omega)⟩
    have a2 : dpS sc T W B nt (6 * m + 9) (5 - (m + 1)) 47 [none] (some (q_E T W (q_L T W m))) := ⟨by omega, pg_E h0 hL, i3⟩
    have hA0 := c_single h0 (by omega) (by omega) a1 a2
    have hA : rdS sc T W B nt (6 * (m + 1) + 4) 49 [] (5 - (m + 1)) (q_A T W (q_L T W (m + 1))) := hA0.mono (by omega)
    have := up (m + 1) hm hA ⟨by omega, pg_N h0 hL, i2.mono (by omega)⟩
    exact ⟨hA, this.1, this.2⟩
end RG
