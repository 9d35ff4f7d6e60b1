/-! the reference: a part, a text, what a rule says -/
section RE
variable {sc : si_Sc} {f : Nat → Int32} {z fr nt : Nat} {nm : Nat → Int32}
theorem rl_all (h0 : ∀ k, nt ≤ k → TT f z k = 0) (hnt : nt ≤ 160) : rrS sc f z fr nm nt 39 178 [none, none] 0 31 (q_E (TT f z) (WW f z) (q_L (TT f z) (WW f z) 5)) := by
  have a5 : rrS sc f z fr nm nt 4 143 [none] 5 1 (q_A (TT f z) (WW f z) (q_L (TT f z) (WW f z) 0)) := rl_atom5 h0
  have t5 := rl_term5 h0 hnt (by omega) (pg_A h0 (pg_L (W := WW f z) h0 0)) a5
  have s5 := rl_added5 h0 hnt (by omega) (pg_M h0 (pg_L (W := WW f z) h0 0)) t5
  have n5 : rrS sc f z fr nm nt 7 146 [none, none, none] 5 4 (q_N (TT f z) (WW f z) (q_L (TT f z) (WW f z) 0)) := rl_not5 h0 (by omega) (pg_D h0 (pg_L (W := WW f z) h0 0)) s5
  have b5 := rl_both5 h0 hnt (by omega) (pg_N h0 (pg_L (W := WW f z) h0 0)) n5
  have e5 : rrS sc f z fr nm nt 9 148 [none, none] 5 6 (q_E (TT f z) (WW f z) (q_L (TT f z) (WW f z) 0)) := rl_either5 h0 hnt (by omega) (pg_B h0 (pg_L (W := WW f z) h0 0)) b5
  have a4 : rrS sc f z fr nm nt 10 149 [none] 4 6 (q_A (TT f z) (WW f z) (q_L (TT f z) (WW f z) 1)) := rl_atom4 (dA := 1) (by omega) (pg_E h0 (pg_L (W := WW f z) h0 0)) (a5.mo (by omega)) e5 h0 (by omega) (by omega)
  have t4 := rl_term4 h0 hnt (by omega) (pg_A h0 (pg_L (W := WW f z) h0 1)) a4
  have s4 := rl_added4 h0 hnt (by omega) (pg_M h0 (pg_L (W := WW f z) h0 1)) t4
  have n4 : rrS sc f z fr nm nt 13 152 [none, none, none] 4 9 (q_N (TT f z) (WW f z) (q_L (TT f z) (WW f z) 1)) := rl_not4 (dN := 4) (by omega) (n5.mo (by omega)) h0 (by omega) (pg_D h0 (pg_L (W := WW f z) h0 1)) s4
  have b4 := rl_both4 h0 hnt (by omega) (pg_N h0 (pg_L (W := WW f z) h0 1)) n4
  have e4 : rrS sc f z fr nm nt 15 154 [none, none] 4 11 (q_E (TT f z) (WW f z) (q_L (TT f z) (WW f z) 1)) := rl_either4 h0 hnt (by omega) (pg_B h0 (pg_L (W := WW f z) h0 1)) b4
  have a3 : rrS sc f z fr nm nt 16 155 [none] 3 11 (q_A (TT f z) (WW f z) (q_L (TT f z) (WW f z) 2)) := rl_atom3 (dA := 6) (by omega) (pg_E h0 (pg_L (W := WW f z) h0 1)) (a4.mo (by omega)) e4 h0 (by omega) (by omega)
  have t3 := rl_term3 h0 hnt (by omega) (pg_A h0 (pg_L (W := WW f z) h0 2)) a3
  have s3 := rl_added3 h0 hnt (by omega) (pg_M h0 (pg_L (W := WW f z) h0 2)) t3
  have n3 : rrS sc f z fr nm nt 19 158 [none, none, none] 3 14 (q_N (TT f z) (WW f z) (q_L (TT f z) (WW f z) 2)) := rl_not3 (dN := 9) (by omega) (n4.mo (by omega)) h0 (by omega) (pg_D h0 (pg_L (W := WW f z) h0 2)) s3
  have b3 := rl_both3 h0 hnt (by omega) (pg_N h0 (pg_L (W := WW f z) h0 2)) n3
  have e3 : rrS sc f z fr nm nt 21 160 [none, none] 3 16 (q_E (TT f z) (WW f z) (q_L (TT f z) (WW f z) 2)) := rl_either3 h0 hnt (by omega) (pg_B h0 (pg_L (W := WW f z) h0 2)) b3
  have a2 : rrS sc f z fr nm nt 22 161 [none] 2 16 (q_A (TT f z) (WW f z) (q_L (TT f z) (WW f z) 3)) := rl_atom2 (dA := 11) (by omega) (pg_E h0 (pg_L (W := WW f z) h0 2)) (a3.mo (by omega)) e3 h0 (by omega) (by omega)
  have t2 := rl_term2 h0 hnt (by omega) (pg_A h0 (pg_L (W := WW f z) h0 3)) a2
  have s2 := rl_added2 h0 hnt (by omega) (pg_M h0 (pg_L (W := WW f z) h0 3)) t2
  have n2 : rrS sc f z fr nm nt 25 164 [none, none, none] 2 19 (q_N (TT f z) (WW f z) (q_L (TT f z) (WW f z) 3)) := rl_not2 (dN := 14) (by omega) (n3.mo (by omega)) h0 (by omega) (pg_D h0 (pg_L (W := WW f z) h0 3)) s2
  have b2 := rl_both2 h0 hnt (by omega) (pg_N h0 (pg_L (W := WW f z) h0 3)) n2
  have e2 : rrS sc f z fr nm nt 27 166 [none, none] 2 21 (q_E (TT f z) (WW f z) (q_L (TT f z) (WW f z) 3)) := rl_either2 h0 hnt (by omega) (pg_B h0 (pg_L (W := WW f z) h0 3)) b2
  have a1 : rrS sc f z fr nm nt 28 167 [none] 1 21 (q_A (TT f z) (WW f z) (q_L (TT f z) (WW f z) 4)) := rl_atom1 (dA := 16) (by omega) (pg_E h0 (pg_L (W := WW f z) h0 3)) (a2.mo (by omega)) e2 h0 (by omega) (by omega)
  have t1 := rl_term1 h0 hnt (by omega) (pg_A h0 (pg_L (W := WW f z) h0 4)) a1
  have s1 := rl_added1 h0 hnt (by omega) (pg_M h0 (pg_L (W := WW f z) h0 4)) t1
  have n1 : rrS sc f z fr nm nt 31 170 [none, none, none] 1 24 (q_N (TT f z) (WW f z) (q_L (TT f z) (WW f z) 4)) := rl_not1 (dN := 19) (by omega) (n2.mo (by omega)) h0 (by omega) (pg_D h0 (pg_L (W := WW f z) h0 4)) s1
  have b1 := rl_both1 h0 hnt (by omega) (pg_N h0 (pg_L (W := WW f z) h0 4)) n1
  have e1 : rrS sc f z fr nm nt 33 172 [none, none] 1 26 (q_E (TT f z) (WW f z) (q_L (TT f z) (WW f z) 4)) := rl_either1 h0 hnt (by omega) (pg_B h0 (pg_L (W := WW f z) h0 4)) b1
  have a0 : rrS sc f z fr nm nt 34 173 [none] 0 26 (q_A (TT f z) (WW f z) (q_L (TT f z) (WW f z) 5)) := rl_atom0 (dA := 21) (by omega) (pg_E h0 (pg_L (W := WW f z) h0 4)) (a1.mo (by omega)) e1 h0 (by omega) (by omega)
  have t0 := rl_term0 h0 hnt (by omega) (pg_A h0 (pg_L (W := WW f z) h0 5)) a0
  have s0 := rl_added0 h0 hnt (by omega) (pg_M h0 (pg_L (W := WW f z) h0 5)) t0
  have n0 : rrS sc f z fr nm nt 37 176 [none, none, none] 0 29 (q_N (TT f z) (WW f z) (q_L (TT f z) (WW f z) 5)) := rl_not0 (dN := 24) (by omega) (n1.mo (by omega)) h0 (by omega) (pg_D h0 (pg_L (W := WW f z) h0 5)) s0
  have b0 := rl_both0 h0 hnt (by omega) (pg_N h0 (pg_L (W := WW f z) h0 5)) n0
  have e0 : rrS sc f z fr nm nt 39 178 [none, none] 0 31 (q_E (TT f z) (WW f z) (q_L (TT f z) (WW f z) 5)) := rl_either0 h0 hnt (by omega) (pg_B h0 (pg_L (W := WW f z) h0 5)) b0
  exact e0
variable {d : Nat} {μ : si_Mm} {Q : si_Po} {k : Nat}
theorem b_part19 {a1 : Int32} (h : BD f z k μ) (hq : ∀ v, Q (some (.inl v)) μ) : si_W sc (d + 1) 179 19 [some (.inr (.inr (7, 0))), some (.inl a1), none] [] μ Q := by
  have hb : ¬ μ.1 7 0 28 = 0 := fun c => by rw [h.1] at c; exact absurd c (by decide)
  exact k_X7_part_19 ⟨fun c => absurd c hb, fun _ => k_X7_part_34 (b_isSign h (k_X7_part_41 ⟨fun q => absurd rfl q, fun _ => b_fail h (k_X7_part_48 ⟨fun _ => k_X7_part_59 (hq _), fun c => absurd c hb⟩)⟩))⟩
theorem r_part {w : Nat} (hw : w < 12) (h0 : ∀ k, nt ≤ k → TT f z k = 0) (hnt : nt ≤ 160) (hin : IN f z fr nm 0 nt k μ) (hq : ∀ μ' v, RO f z nm 0 31 (q_part (TT f z) (WW f z) (cw w) k) μ μ' v → Q (some (.inl v)) μ') : si_W sc (d + 40) 179 0 [some (.inr (.inr (7, 0))), some (.inl (bi (TT f z k = cw w))), none] [] μ Q := by
  have hE := rl_all (sc := sc) (f := f) (z := z) (fr := fr) (nm := nm) h0 hnt
  have hEg := pg_E (T := TT f z) (W := WW f z) h0 (pg_L (W := WW f z) h0 5)
  unfold q_part at hq
  refine k_X7_part_0 ⟨fun c => ?_, fun c => ?_⟩
  · have c' := bi_n c
    rw [if_pos c'] at hq
    refine k_X7_part_8 ⟨fun q => absurd hin.2.1.1 q, fun _ => r_nx h0 hin (TT_w hw c') fun μ1 f1 i1 => k_X7_part_19 ⟨fun _ => hE (d + 39) μ1 _ (k + 1) (by omega) i1 fun μ2 v r2 => k_X7_part_34 ?_, fun q => absurd i1.2.1.1 q⟩⟩
    have f12 := f1.tr r2.1
    rcases hr : q_E (TT f z) (WW f z) (q_L (TT f z) (WW f z) 5) (k + 1) with ⟨k2, _ | cs⟩
    · rw [hr] at r2 hq
      have hb : ¬ μ2.1 7 0 28 = 0 := fun c => by rw [r2.2.1] at c; exact absurd c (by decide)
      exact b_isSign r2.2 (k_X7_part_41 ⟨fun q => absurd rfl q, fun _ => b_fail r2.2 (k_X7_part_48 ⟨fun _ => k_X7_part_59 (hq μ2 v ⟨f12, r2.2⟩), fun c => absurd c hb⟩)⟩)
    · rw [hr] at r2 hq
      have hk2 := pg_s hEg i1.2.2.2.2 hr
      have i2 : IN f z fr nm 0 nt k2 μ2 := ⟨hin.1.p f12, r2.2.1, r2.2.2.1, nm_p hin.2.2.2.1 f12, hk2.2.1⟩
      unfold q_b at hq
      dsimp only at hq
      refine r_isSign (by unfold isG; decide) r2.2.1 (k_X7_part_41 ⟨fun c2 => ?_, fun c2 => r_fail r2.2.1 fun μ3 f3 b3 _ => ?_⟩)
      · have c2' := bi_n c2
        rw [if_pos c2'] at hq
        exact k_X7_part_48 ⟨fun q => absurd r2.2.1.1 q, fun _ => r_nx h0 i2 (TT_g (by unfold isG; decide) c2') fun μ3 f3 i3 => k_X7_part_59 (hq μ3 v ⟨f12.tr f3, i3.2.1, i3.2.2.1, r2.2.2.2⟩)⟩
      · have c2' := bi_0.mp c2
        rw [if_neg c2'] at hq
        have hb : ¬ μ3.1 7 0 28 = 0 := fun c => by rw [b3.1] at c; exact absurd c (by decide)
        exact k_X7_part_48 ⟨fun _ => k_X7_part_59 (hq μ3 v ⟨f12.tr f3, b3⟩), fun c => absurd c hb⟩
  · have c' := bi_0.mp c
    rw [if_neg c'] at hq
    refine r_fail hin.2.1 fun μ1 f1 b1 _ => ?_
    have hb : ¬ μ1.1 7 0 28 = 0 := fun c => by rw [b1.1] at c; exact absurd c (by decide)
    exact k_X7_part_8 ⟨fun _ => b_part19 b1 fun v => hq μ1 v ⟨f1, b1⟩, fun c => absurd c hb⟩
def Jr (j : Nat) : Bool := Nat.ble 21 j && Nat.ble j 29
theorem Jr_i {j : Nat} : Jr j = true ↔ 21 ≤ j ∧ j ≤ 29 := by unfold Jr; rw [Bool.and_eq_true, Nat.ble_eq, Nat.ble_eq]
theorem fx.pr {μ1 μ2 : si_Mm} (h : fx Jp A0 μ1 μ2) : fx Jr A0 μ1 μ2 := h.mo (fun j q => Jr_i.mpr (by have := Jp_i.mp q; omega)) (fun a q => q)
theorem fx.rs {μ1 μ2 : si_Mm} (h : fx Jr A0 μ1 μ2) : fx Js A0 μ1 μ2 := h.mo (fun j q => Js_i.mpr (by have := Jr_i.mp q; omega)) (fun a q => q)
set_option maxHeartbeats 1000000 in
theorem r_read {t : Nat} {w : Int32} (ht : t < 6) (hz : μ.1 30 0 t = nI z) (hz1 : z ≤ 160) (hb : ∀ i, i < z → μ.1 29 0 (160 * t + i) = f i ∧ 0 ≤ (f i).toInt) (hnm : ∀ i, i < 6 → μ.1 7 0 (15 + i) = nm i)
    (ok : ∀ k' c0 c1 c2 μ' v0 v1 v2, q_text (TT f z) (WW f z) = (k', some (c0, c1, c2)) → fx Jr A0 μ μ' → μ'.1 7 0 28 = 0 → Gd nm c0 v0 31 → Gd nm c1 v1 31 → Gd nm c2 v2 31 → Q (some (.inl (if w = 0 then v0 else if w = 1 then v1 else v2))) μ')
    (bad : ∀ k' μ' v, q_text (TT f z) (WW f z) = (k', none) → fx Jr A0 μ μ' → BD f z k' μ' → Q (some (.inl v)) μ') : si_W sc (d + 41) 180 0 [some (.inr (.inr (7, 0))), some (.inl (nI t)), some (.inl w), none, none, none] [] μ Q := by
  obtain ⟨nt, hN⟩ := NT_ex f z hz1
  have h0 := NT_T0 hN
  have hnt := hN.1
  have ct : (nI t).toNatClampNeg = t := nI_c (by omega)
  have e160 : 160 * nI t = nI (160 * t) := by
    have e : (160 : Int32) = nI 160 := rfl
    rw [e, pk_mul]
  refine k_X7_read_0 ?_
  rw [ct, e160]
  have e30 : (si_ms μ 7 0 21 (nI (160 * t))).1 30 0 t = nI z := by rw [ms_eq, if_neg (by omega)]; exact hz
  rw [e30]
  refine ⟨vp_in_nI ht (by omega), b0, ?_⟩
  have f1 : fx Jr A0 μ (si_ms (si_ms (si_ms (si_ms (si_ms μ 7 0 21 (nI (160 * t))) 7 0 22 (nI z)) 7 0 23 0) 7 0 27 0) 7 0 28 0) := fun a i j e1 _ => by
    rw [ms_eq, if_neg (fun q => e1 ⟨q.1, q.2.1, Jr_i.mpr (by omega)⟩), ms_eq, if_neg (fun q => e1 ⟨q.1, q.2.1, Jr_i.mpr (by omega)⟩), ms_eq, if_neg (fun q => e1 ⟨q.1, q.2.1, Jr_i.mpr (by omega)⟩), ms_eq, if_neg (fun q => e1 ⟨q.1, q.2.1, Jr_i.mpr (by omega)⟩), ms_eq, if_neg (fun q => e1 ⟨q.1, q.2.1, Jr_i.mpr (by omega)⟩)]
  have g21 : (si_ms (si_ms (si_ms (si_ms (si_ms μ 7 0 21 (nI (160 * t))) 7 0 22 (nI z)) 7 0 23 0) 7 0 27 0) 7 0 28 0).1 7 0 21 = nI (160 * t) := by simp [ms_eq]
  have g22 : (si_ms (si_ms (si_ms (si_ms (si_ms μ 7 0 21 (nI (160 * t))) 7 0 22 (nI z)) 7 0 23 0) 7 0 27 0) 7 0 28 0).1 7 0 22 = nI z := by simp [ms_eq]
  have g23 : (si_ms (si_ms (si_ms (si_ms (si_ms μ 7 0 21 (nI (160 * t))) 7 0 22 (nI z)) 7 0 23 0) 7 0 27 0) 7 0 28 0).1 7 0 23 = 0 := by simp [ms_eq]
  have g27 : (si_ms (si_ms (si_ms (si_ms (si_ms μ 7 0 21 (nI (160 * t))) 7 0 22 (nI z)) 7 0 23 0) 7 0 27 0) 7 0 28 0).1 7 0 27 = 0 := by simp [ms_eq]
  have g28 : (si_ms (si_ms (si_ms (si_ms (si_ms μ 7 0 21 (nI (160 * t))) 7 0 22 (nI z)) 7 0 23 0) 7 0 27 0) 7 0 28 0).1 7 0 28 = 0 := by simp [ms_eq]
  generalize si_ms (si_ms (si_ms (si_ms (si_ms μ 7 0 21 (nI (160 * t))) 7 0 22 (nI z)) 7 0 23 0) 7 0 27 0) 7 0 28 0 = μ1 at *
  have hTS : TS μ1 f z (160 * t) := ⟨g21, g22, hz1, by omega, fun i hi => by rw [f1 29 0 _ (by omega) rfl]; exact hb i hi⟩
  have hn1 : ∀ i, i < 6 → μ1.1 7 0 (15 + i) = nm i := fun i hi => by rw [f1 7 0 _ (fun q => by have := Jr_i.mp q.2.2; omega) rfl]; exact hnm i hi
  refine r_next (k := 0) hTS g28 (by rw [g23]; rfl) fun μ2 f2 a2 => k_X7_read_38 ?_
  have o2 : μ2.1 7 0 27 = nI 0 := (f2 7 0 27 (fun q => by have := Jn_i.mp q.2.2; omega) rfl).trans g27
  have i2 : IN f z (160 * t) nm 0 nt 0 μ2 := ⟨hTS.p f2.np, a2, o2, nm_p hn1 f2.np, by omega⟩
  have f12 := f1.tr f2.np.pr
  have bd : ∀ k' (μ3 : si_Mm), BD f z k' μ3 → ¬ μ3.1 7 0 28 = 0 := fun k' μ3 b3 c => by rw [b3.1] at c; exact absurd c (by decide)
  have out : ∀ (v0 v1 v2 : Int32) (μ5 : si_Mm), Q (some (.inl (if w = 0 then v0 else if w = 1 then v1 else v2))) μ5 → si_W sc (d + 41) 180 145 [some (.inr (.inr (7, 0))), some (.inl (nI t)), some (.inl w), some (.inl v0), some (.inl v1), some (.inl v2)] [] μ5 Q := by
    intro v0 v1 v2 μ5 hq
    refine k_X7_read_145 ⟨fun c => ⟨fun c2 => ?_, fun c2 => ?_⟩, fun c => ?_⟩
    · rw [if_neg c, if_neg c2] at hq; exact hq
    · rw [if_neg c, if_pos c2] at hq; exact hq
    · rw [if_pos c] at hq; exact hq
  refine r_isW (w := 0) (by decide) (by decide +kernel) i2.1 i2.2.1 (k_X7_read_55 (r_part (by decide) h0 hnt i2 fun μ3 v0 r3 => ?_))
  have g1 := pg_part (T := TT f z) (W := WW f z) h0 (key := 201) (by decide)
  have g2 := pg_part (T := TT f z) (W := WW f z) h0 (key := 202) (by decide)
  have g3 := pg_part (T := TT f z) (W := WW f z) h0 (key := 203) (by decide)
  rcases h1 : q_part (TT f z) (WW f z) 201 0 with ⟨k1, _ | c0⟩
  · have r3' : RO f z nm 0 31 (q_part (TT f z) (WW f z) 201 0) μ2 μ3 v0 := r3
    rw [h1] at r3'
    have ex : q_text (TT f z) (WW f z) = (k1, none) := by unfold q_text; rw [h1]
    have fin := bad k1 μ3
    exact k_X7_read_58 ⟨fun c => absurd c (bd _ _ r3'.2), fun _ => k_X7_read_91 ⟨fun c => absurd c (bd _ _ r3'.2), fun _ => k_X7_read_125 ⟨fun _ => out _ _ _ μ3 (bad k1 μ3 _ ex (f12.tr r3'.1.pr) r3'.2), fun c => absurd c (bd _ _ r3'.2)⟩⟩⟩
  · have r3' : RO f z nm 0 31 (q_part (TT f z) (WW f z) 201 0) μ2 μ3 v0 := r3
    rw [h1] at r3'
    have l1 := pg_s g1 (by omega) h1
    have i3 : IN f z (160 * t) nm 0 nt k1 μ3 := ⟨i2.1.p r3'.1, r3'.2.1, r3'.2.2.1, nm_p i2.2.2.2.1 r3'.1, l1.2.1⟩
    have f13 := f12.tr r3'.1.pr
    refine k_X7_read_58 ⟨fun _ => r_isW (w := 1) (by decide) (by decide +kernel) i3.1 i3.2.1 (k_X7_read_88 (r_part (by decide) h0 hnt i3 fun μ4 v1 r4 => ?_)), fun c => absurd r3'.2.1.1 c⟩
    rcases h2 : q_part (TT f z) (WW f z) 202 k1 with ⟨k2, _ | c1⟩
    · have r4' : RO f z nm 0 31 (q_part (TT f z) (WW f z) 202 k1) μ3 μ4 v1 := r4
      rw [h2] at r4'
      have ex : q_text (TT f z) (WW f z) = (k2, none) := by unfold q_text; rw [h1]; dsimp only; rw [h2]
      exact k_X7_read_91 ⟨fun c => absurd c (bd _ _ r4'.2), fun _ => k_X7_read_125 ⟨fun _ => out _ _ _ μ4 (bad k2 μ4 _ ex (f13.tr r4'.1.pr) r4'.2), fun c => absurd c (bd _ _ r4'.2)⟩⟩
    · have r4' : RO f z nm 0 31 (q_part (TT f z) (WW f z) 202 k1) μ3 μ4 v1 := r4
      rw [h2] at r4'
      have l2 := pg_s g2 (by omega) h2
      have i4 : IN f z (160 * t) nm 0 nt k2 μ4 := ⟨i3.1.p r4'.1, r4'.2.1, r4'.2.2.1, nm_p i3.2.2.2.1 r4'.1, l2.2.1⟩
      have f14 := f13.tr r4'.1.pr
      refine k_X7_read_91 ⟨fun _ => r_isW (w := 2) (by decide) (by decide +kernel) i4.1 i4.2.1 (k_X7_read_122 (r_part (by decide) h0 hnt i4 fun μ5 v2 r5 => ?_)), fun c => absurd r4'.2.1.1 c⟩
      rcases h3 : q_part (TT f z) (WW f z) 203 k2 with ⟨k3, _ | c2⟩
      · have r5' : RO f z nm 0 31 (q_part (TT f z) (WW f z) 203 k2) μ4 μ5 v2 := r5
        rw [h3] at r5'
        have ex : q_text (TT f z) (WW f z) = (k3, none) := by unfold q_text; rw [h1]; dsimp only; rw [h2]; dsimp only; rw [h3]
        exact k_X7_read_125 ⟨fun _ => out _ _ _ μ5 (bad k3 μ5 _ ex (f14.tr r5'.1.pr) r5'.2), fun c => absurd c (bd _ _ r5'.2)⟩
      · have r5' : RO f z nm 0 31 (q_part (TT f z) (WW f z) 203 k2) μ4 μ5 v2 := r5
        rw [h3] at r5'
        have f15 := f14.tr r5'.1.pr
        have ex : q_text (TT f z) (WW f z) = if TT f z k3 = 0 then (k3, some (c0, c1, c2)) else (k3, none) := by unfold q_text; rw [h1]; dsimp only; rw [h2]; dsimp only; rw [h3]
        refine k_X7_read_125 ⟨fun c => absurd r5'.2.1.1 c, fun _ => ⟨fun c => out _ _ _ μ5 ?_, fun c => r_fail r5'.2.1 fun μ6 f6 b6 _ => out _ _ _ μ6 ?_⟩⟩
        · have hT : TT f z k3 = 0 := by
            rcases r5'.2.1.cs with q | q | q | q | q
            · exact q.1
            · rw [q.2.2.1] at c; exact absurd c (by decide)
            · rw [q.2.1] at c; exact absurd c (by decide)
            · rw [q.2.1] at c; exact absurd c (by decide)
            · rw [q.2] at c; exact absurd c (by decide)
          rw [if_pos hT] at ex
          exact ok k3 c0 c1 c2 μ5 v0 v1 v2 ex f15 r5'.2.1.1 r3'.2.2.2 r4'.2.2.2 r5'.2.2.2
        · have hT : ¬ TT f z k3 = 0 := by
            rcases r5'.2.1.cs with q | q | q | q | q
            · exact absurd q.2 c
            · rw [q.2.2.2.2.1]
              rcases wc_r (wl f (lb f z (en f z k3)) (wE f z (lb f z (en f z k3)))) with w1 | ⟨w, hw, w1, _⟩
              · rw [w1]; decide
              · rw [w1]; have := cw_r w hw; intro e; rw [e, i_0] at this; omega
            · rw [q.1]; decide
            · have := isG_c q.1; intro e; rw [e, i_0] at this; omega
            · rw [q.1]; decide
          rw [if_neg hT] at ex
          exact bad k3 μ6 _ ex (f15.tr f6.pr) b6
end RE
/-- the reference's texts say what V says -/
def RT (μ : si_Mm) (n : Nat) (V : VT) : Prop := ∀ t, t < n → ∃ (f : Nat → Int32) (z : Nat), z ≤ 160 ∧ μ.1 30 0 t = nI z ∧ (∀ i, i < z → μ.1 29 0 (160 * t + i) = f i ∧ 0 ≤ (f i).toInt) ∧ ∃ k' c0 c1 c2, q_text (TT f z) (WW f z) = (k', some (c0, c1, c2)) ∧ ∀ nm, V t 0 nm = cl (evl nm c0) ∧ V t 1 nm = cl (evl nm c1) ∧ V t 2 nm = cl (evl nm c2)
theorem RT.of {μ μ' : si_Mm} {n : Nat} {V : VT} (h : RT μ n V) (h1 : μ'.1 30 0 = μ.1 30 0) (h2 : μ'.1 29 0 = μ.1 29 0) : RT μ' n V := by
  unfold RT; rw [h1, h2]; exact h
theorem cl_w {x : Int32} : (if x < 0 then 0 else if 99 < x then 99 else x) = cl x := by
  unfold cl
  by_cases h1 : x < 0
  · rw [if_pos h1, if_pos (show x < 99 by rw [i_lt, i_99]; rw [i_lt, i_0] at h1; omega), if_neg (by rw [i_lt, i_0]; rw [i_lt, i_0] at h1; omega)]
  rw [if_neg h1]
  by_cases h2 : 99 < x
  · rw [if_pos h2, if_neg (show ¬ x < 99 by rw [i_lt, i_99]; rw [i_lt, i_99] at h2; omega), if_pos (by decide)]
  · rw [if_neg h2]
    by_cases h3 : x < 99
    · rw [if_pos h3]
      by_cases h4 : 0 < x
      · rw [if_pos h4]
      · rw [if_neg h4, i_eq, i_0]; rw [i_lt, i_0] at h1 h4; omega
    · rw [if_neg h3, if_pos (by decide), i_eq, i_99]; rw [i_lt, i_99] at h2 h3; omega
section RS
variable {sc : si_Sc} {d : Nat} {μ : si_Mm} {Q : si_Po} {n : Nat} {V : VT} {S : gS}
set_option maxHeartbeats 1000000 in
theorem r_says {w s : Nat} {x : Int32} {o : Option Nat} (h : RV μ S) (hw : gw S n) (hn6 : n ≤ 6) (hT : RT μ n V) (hw3 : w < 3) (hs : s < 6) (hx : match o with | some p => p < gP S ∧ x = nI p ∧ 0 ≤ S 18 p | none => x = -1) (hq : ∀ μ', fx Js A0 μ μ' → Q (some (.inl (V (gR S) w (nv S s o)))) μ') : si_W sc (d + 42) 181 0 [some (.inr (.inr (7, 0))), some (.inl (nI w)), some (.inl x), some (.inl (nI s))] [] μ Q := by
  have h8 := hw.1
  have cs : (nI s).toNatClampNeg = s := nI_c (by omega)
  have is38 : vp_in (nI s) 38 := vp_in_nI (by omega) (by omega)
  -- the six names as memory
  have last : ∀ (μ1 : si_Mm) (v5 : Int32), fx Js A0 μ μ1 → (∀ i, i < 5 → μ1.1 7 0 (15 + i) = nv S s o i) → v5 = nv S s o 5 → si_W sc (d + 42) 181 85 [some (.inr (.inr (7, 0))), some (.inl (nI w)), some (.inl x), some (.inl (nI s))] [.inl v5, .inr (.inr (7, 0))] μ1 Q := by
    intro μ1 v5 f1 hnm hv
    refine k_X7_says_85 ?_
    have f2 : fx Js A0 μ (si_ms μ1 7 0 20 v5) := f1.tr (fun a i j e1 _ => by rw [ms_eq, if_neg (fun q => e1 ⟨q.1, q.2.1, Js_i.mpr (by omega)⟩)])
    have hnm2 : ∀ i, i < 6 → (si_ms μ1 7 0 20 v5).1 7 0 (15 + i) = nv S s o i := fun i hi => by
      rw [ms_eq]
      by_cases e : i = 5
      · rw [if_pos ⟨rfl, rfl, by omega⟩, e]; exact hv
      · rw [if_neg (by omega)]; exact hnm i (by omega)
    have e4 : (si_ms μ1 7 0 20 v5).1 7 0 4 = nI (gR S) := by
      rw [f2 7 0 4 (fun q => by have := Js_i.mp q.2.2; omega) rfl, h.2.2.2.1]; exact hw.2.2.2.1
    rw [e4]
    generalize si_ms μ1 7 0 20 v5 = μ2 at f2 hnm2
    obtain ⟨f, z, hz1, hz, hb, k', c0, c1, c2, hqt, hV⟩ := hT (gR S) hw.2.2.1
    have hg := hw.2.2.1
    refine r_read (f := f) (z := z) (nm := nv S s o) (by omega) (by rw [f2 30 0 _ (by omega) rfl]; exact hz) hz1 (fun i hi => by rw [f2 29 0 _ (by omega) rfl]; exact hb i hi) hnm2 (fun k2 d0 d1 d2 μ3 v0 v1 v2 he f3 b3 G0 G1 G2 => k_X7_says_97 (r_within (k_X7_says_103 ?_))) (fun k2 μ3 v he f3 b3 => ?_)
    · rw [hqt] at he
      cases he
      rw [cl_w]
      have hfin := hq μ3 (f2.tr f3.rs)
      obtain ⟨V0, V1, V2⟩ := hV (nv S s o)
      rcases (show w = 0 ∨ w = 1 ∨ w = 2 by omega) with rfl | rfl | rfl
      · rw [V0, Gd_evl G0 (by omega)] at hfin
        rw [if_pos (show nI 0 = 0 from rfl)]; exact hfin
      · rw [V1, Gd_evl G1 (by omega)] at hfin
        rw [if_neg (show ¬ nI 1 = 0 by decide), if_pos (show nI 1 = 1 from rfl)]; exact hfin
      · rw [V2, Gd_evl G2 (by omega)] at hfin
        rw [if_neg (show ¬ nI 2 = 0 by decide), if_neg (show ¬ nI 2 = 1 by decide)]; exact hfin
    · rw [hqt] at he; cases he
  cases o with
  | none =>
    have hx' : x = -1 := hx
    subst hx'
    refine k_X7_says_0 ⟨fun c => absurd rfl c, fun _ => k_X7_says_16 ⟨is38, fun c => absurd rfl c, fun _ => k_X7_says_57 ⟨fun c => absurd rfl c, fun _ => last _ 0 (fun a i j e1 _ => ?_) (fun i hi => ?_) rfl⟩⟩⟩
    · rw [cs]
      rw [ms_eq, if_neg (fun q => e1 ⟨q.1, q.2.1, Js_i.mpr (by omega)⟩), ms_eq, if_neg (fun q => e1 ⟨q.1, q.2.1, Js_i.mpr (by omega)⟩), ms_eq, if_neg (fun q => e1 ⟨q.1, q.2.1, Js_i.mpr (by omega)⟩), ms_eq, if_neg (fun q => e1 ⟨q.1, q.2.1, Js_i.mpr (by omega)⟩), ms_eq, if_neg (fun q => e1 ⟨q.1, q.2.1, Js_i.mpr (by omega)⟩)]
    · rw [cs]
      rcases (show i = 0 ∨ i = 1 ∨ i = 2 ∨ i = 3 ∨ i = 4 by omega) with rfl | rfl | rfl | rfl | rfl
      · simp [ms_eq, nv]
      · simp [ms_eq, nv]; exact h.1
      · simp [ms_eq, nv]; exact (h.2.2.2.2.2.1 s hs).1
      · simp [ms_eq, nv]
      · simp [ms_eq, nv]
  | some p =>
    obtain ⟨hp, hx', h18⟩ := hx
    subst hx'
    have cp : (nI p).toNatClampNeg = p := nI_c (by omega)
    have ne : ¬ nI p = -1 := nI_neg1 (by omega)
    obtain ⟨q1, q2, q3, q4, q5⟩ := h.2.2.2.2.2.2 p hp
    refine k_X7_says_0 ⟨fun _ => ⟨vp_in_nI (by omega) (by omega), k_X7_says_16 ⟨is38, fun _ => k_X7_at_0 (k_X7_says_56 ?_), fun c => absurd c ne⟩⟩, fun c => absurd c ne⟩
    have c1 : (nI (6 + 4 * p + 1)).toNatClampNeg = 6 + 4 * p + 1 := nI_c (by omega)
    have c2 : (nI (6 + 4 * p + 2)).toNatClampNeg = 6 + 4 * p + 2 := nI_c (by omega)
    rw [at_1, cs, cp, c1]
    refine ⟨vp_in_nI (by omega) (by omega), k_X7_says_57 ⟨fun _ => k_X7_at_0 (k_X7_says_84 ?_), fun c => absurd c ne⟩⟩
    rw [at_2, c2]
    refine ⟨vp_in_nI (by omega) (by omega), last _ _ (fun a i j e1 _ => ?_) (fun i hi => ?_) ?_⟩
    · rw [ms_eq, if_neg (fun q => e1 ⟨q.1, q.2.1, Js_i.mpr (by omega)⟩), ms_eq, if_neg (fun q => e1 ⟨q.1, q.2.1, Js_i.mpr (by omega)⟩), ms_eq, if_neg (fun q => e1 ⟨q.1, q.2.1, Js_i.mpr (by omega)⟩), ms_eq, if_neg (fun q => e1 ⟨q.1, q.2.1, Js_i.mpr (by omega)⟩), ms_eq, if_neg (fun q => e1 ⟨q.1, q.2.1, Js_i.mpr (by omega)⟩)]
    · rcases (show i = 0 ∨ i = 1 ∨ i = 2 ∨ i = 3 ∨ i = 4 by omega) with rfl | rfl | rfl | rfl | rfl
      · simp [ms_eq, nv]; exact q2
      · simp [ms_eq, nv]; exact h.1
      · simp [ms_eq, nv]; exact (h.2.2.2.2.2.1 s hs).1
      · simp [ms_eq, nv]; exact (q5 h18).1
      · simp [ms_eq, nv]
    · simp [ms_eq, nv]; exact (q5 h18).2
end RS
