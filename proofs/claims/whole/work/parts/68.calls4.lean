/-! the sheets' calls, tells, taken -/
section CG
variable {sc : si_Sc} {d : Nat} {μ : si_Mm} {Q : si_Po} {n : Nat} {V : VT} {S : gS} {K : Option gS} {R : shT} {zz : Nat} {f : Nat → Int32} {w o v x y i j k : Int32}
theorem cc_sheet (h : CI μ n V S K R zz f) (hq : ∀ μ', cf μ μ' → CI μ' n V S K (N_sheet R w x y) zz f → Q (some (.inl (A_sheet w x y))) μ') : si_W sc (d + 2) 116 0 [some (.inr (.inr (6, 0))), some (.inl w), some (.inl x), some (.inl y)] [] μ Q := by
  unfold A_sheet N_sheet at hq
  have bad : ¬ okS w x → Q (some (.inl (-2))) μ := fun hn => by
    rw [ic_f hn, ic_f hn] at hq; exact hq μ cf.rf h
  refine k_X6_sheet_0 (p_isSheet (k_X6_sheet_4 ⟨fun hz => bad (fun a => bi_0.mp hz a.1), fun hz => p_isWithin (k_X6_sheet_13 ⟨fun hy => ⟨fun c1 => ⟨fun c2 => ⟨fun c3 => ?_, fun c3 => ?_⟩, fun c2 => ?_⟩, fun c1 => ?_⟩, fun hy => bad (fun a => bi_0.mp hy a.2)⟩)⟩))
  all_goals
    have hok : okS w x := ⟨bi_n hz, bi_n hy⟩
    rw [ic_t hok, ic_t hok] at hq
    obtain ⟨t, ht, rfl⟩ := sh_n hok.1
    have ct : (nI t).toNatClampNeg = t := nI_c (by omega)
    rw [ct] at hq
  · rw [ic_f c1, ic_f c1, ic_t c2, ic_t c2, ic_t c3, ic_t c3] at hq
    have hy' := rg_n (A := 40) (lo := 0) (hi := 40) (by decide) (by decide) ⟨c3, c2⟩
    generalize y.toNatClampNeg = N at hq hy'
    obtain ⟨hN, rfl, _⟩ := hy'
    exact p_lay h.CR ht hN fun μ1 f1 R1 => k_X6_sheet_62 (hq μ1 f1.cf (h.r4 f1 R1))
  · rw [ic_f c1, ic_f c1, ic_t c2, ic_t c2, ic_f c3, ic_f c3] at hq
    exact hq μ cf.rf h
  · rw [ic_f c1, ic_f c1, ic_f c2, ic_f c2] at hq
    exact hq μ cf.rf h
  · rw [ic_t c1, ic_t c1] at hq
    exact p_lay (z := 0) h.CR ht (by omega) fun μ1 f1 R1 => k_X6_sheet_34 (hq μ1 f1.cf (h.r4 f1 R1))
theorem inS_n {t : Nat} (hz : R.2.1 t ≤ 40) (h : inS R t i) : i.toNatClampNeg < R.2.1 t ∧ i = nI i.toNatClampNeg := by
  obtain ⟨h1, h2⟩ := h
  rw [i_le, i_0] at h1
  rw [i_le, i_sub (by rw [nI_toInt (by omega), i_1]; omega) (by rw [nI_toInt (by omega), i_1]; omega), nI_toInt (by omega), i_1] at h2
  have e : i = nI i.toInt.toNat := by rw [i_eq, nI_toInt (by omega)]; omega
  have c : i.toNatClampNeg = i.toInt.toNat := by
    conv => lhs; rw [e]
    exact nI_clamp (by omega)
  rw [c]
  exact ⟨by omega, e⟩
theorem cc_cell (h : CI μ n V S K R zz f) (hq : ∀ μ', cf μ μ' → CI μ' n V S K (N_cell R w i v) zz f → Q (some (.inl (A_cell R w i))) μ') : si_W sc (d + 2) 117 0 [some (.inr (.inr (6, 0))), some (.inl w), some (.inl i), some (.inl v)] [] μ Q := by
  unfold A_cell N_cell at hq
  refine k_X6_cell_0 (p_isSheet (k_X6_cell_4 ⟨fun hz => ?_, fun hz => ?_⟩))
  · have hb := bi_n hz
    rw [ic_t hb, ic_t hb] at hq
    obtain ⟨t, ht, rfl⟩ := sh_n hb
    have ct : (nI t).toNatClampNeg = t := nI_c (by omega)
    rw [ct] at hq
    refine p_isMissing h.CR ht (k_X6_cell_18 ⟨fun c1 => ⟨vp_in_nI ht (by omega), ?_⟩, fun c1 => ?_⟩)
    · rw [ic_f (bc_0 c1), ic_f (bc_0 c1)] at hq
      rw [ct, (h.CR t ht).2.1]
      refine p_isWithin (k_X6_cell_40 ⟨fun c2 => ?_, fun c2 => ?_⟩)
      · have c3 := bi_n c2
        have c2' : inS R t i := c3
        rw [ic_t c2', ic_t c2'] at hq
        have hi := inS_n (h.CR t ht).2.2.1 c2'
        generalize i.toNatClampNeg = q at hq hi
        obtain ⟨hi1, rfl⟩ := hi
        exact p_put h.CR ht hi1 fun μ1 f1 R1 => k_X6_cell_56 (hq μ1 f1.cf (h.r4 f1 R1))
      · have c3 := bi_0.mp c2
        have c2' : ¬ inS R t i := c3
        rw [ic_f c2', ic_f c2'] at hq
        exact hq μ cf.rf h
    · rw [ic_t (bc_n c1), ic_t (bc_n c1)] at hq
      exact hq μ cf.rf h
  · have hb := bi_0.mp hz
    rw [ic_f hb, ic_f hb] at hq
    exact hq μ cf.rf h
theorem cc_copy (h : CI μ n V S K R zz f) (hq : ∀ μ', cf μ μ' → CI μ' n V S K (N_copy R w i o j k) zz f → Q (some (.inl (A_copy R w i o j k))) μ') : si_W sc (d + 2) 118 0 [some (.inr (.inr (6, 0))), some (.inl w), some (.inl i), some (.inl o), some (.inl j), some (.inl k)] [] μ Q := by
  unfold A_copy N_copy at hq
  have bad : ¬ okY w o → Q (some (.inl (-2))) μ := fun hn => by
    rw [ic_f hn, ic_f hn] at hq; exact hq μ cf.rf h
  refine k_X6_copy_0 (p_isSheet (k_X6_copy_4 ⟨fun hz => bad (fun a => bi_0.mp hz a.1), fun hz => p_isSheet (k_X6_copy_11 ⟨fun hy => ?_, fun hy => bad (fun a => bi_0.mp hy a.2)⟩)⟩))
  have hok : okY w o := ⟨bi_n hz, bi_n hy⟩
  rw [ic_t hok, ic_t hok] at hq
  obtain ⟨t, ht, rfl⟩ := sh_n hok.1
  obtain ⟨t2, ht2, rfl⟩ := sh_n hok.2
  have ct : (nI t).toNatClampNeg = t := nI_c (by omega)
  have ct2 : (nI t2).toNatClampNeg = t2 := nI_c (by omega)
  unfold inY at hq
  rw [ct, ct2] at hq
  refine p_isMissing h.CR ht (k_X6_copy_25 ⟨fun c1 => ?_, fun c1 => p_isMissing h.CR ht2 (k_X6_copy_36 ⟨fun c2 => ⟨vp_in_nI ht (by omega), vp_in_nI ht2 (by omega), fun c3 => ?_, fun c3 => ?_⟩, fun c2 => ?_⟩)⟩)
  · have c : R.1 t = -1 ∨ R.1 t2 = -1 := Or.inl (bc_n c1)
    rw [ic_t c, ic_t c] at hq; exact hq μ cf.rf h
  · have c : ¬ (R.1 t = -1 ∨ R.1 t2 = -1) := fun a => a.elim (bc_0 c1) (bc_0 c2)
    rw [ct, ct2, (h.CR t ht).1, (h.CR t2 ht2).1] at c3
    rw [ic_f c, ic_f c, ic_t c3, ic_t c3] at hq
    refine p_holds h.CR ht (k_X6_copy_77 ⟨fun c4 => ?_, fun c4 => p_holds h.CR ht2 (k_X6_copy_92 ⟨fun c5 => ?_, fun c5 => ?_⟩)⟩)
    · have c' : ¬ (hold (R.2.1 t) i k ∧ hold (R.2.1 t2) j k) := fun a => bc_0 c4 a.1
      rw [ic_f c', ic_f c'] at hq; exact hq μ cf.rf h
    · have c' : hold (R.2.1 t) i k ∧ hold (R.2.1 t2) j k := ⟨bc_n c4, bc_n c5⟩
      rw [ic_t c', ic_t c'] at hq
      have z1 := (h.CR t ht).2.2.1
      have z2 := (h.CR t2 ht2).2.2.1
      obtain ⟨a1, b1, e1, e2, l1⟩ := hold_n z1 c'.1
      obtain ⟨a2, b2, e3, e4, l2⟩ := hold_n z2 c'.2
      have eb : b1 = b2 := by
        rw [e2] at e4
        exact (nI_eq (by omega) (by omega)).mp e4
      subst eb
      subst e1
      subst e2
      subst e3
      have q1 : (nI a1).toNatClampNeg = a1 := nI_c (by omega)
      have q2 : (nI a2).toNatClampNeg = a2 := nI_c (by omega)
      have q3 : (nI b1).toNatClampNeg = b1 := nI_c (by omega)
      rw [q1, q2, q3] at hq
      exact p_move h.CR ht ht2 l1 l2 fun μ1 f1 R1 => k_X6_copy_112 (hq μ1 f1.cf (h.r4 f1 R1))
    · have c' : ¬ (hold (R.2.1 t) i k ∧ hold (R.2.1 t2) j k) := fun a => bc_0 c5 a.2
      rw [ic_f c', ic_f c'] at hq; exact hq μ cf.rf h
  · have c : ¬ (R.1 t = -1 ∨ R.1 t2 = -1) := fun a => a.elim (bc_0 c1) (bc_0 c2)
    rw [ct, ct2, (h.CR t ht).1, (h.CR t2 ht2).1] at c3
    rw [ic_f c, ic_f c, ic_f c3, ic_f c3] at hq
    exact hq μ cf.rf h
  · have c : R.1 t = -1 ∨ R.1 t2 = -1 := Or.inr (bc_n c2)
    rw [ic_t c, ic_t c] at hq; exact hq μ cf.rf h
theorem nI_two {q : Nat} : 2 * nI q = nI (2 * q) := by
  have e : (2 : Int32) = nI 2 := rfl
  rw [e, pk_mul]
theorem fr_n {z q : Nat} (hz : z ≤ 40) (hq8 : q ≤ 8) (h : 0 ≤ x ∧ x < nI z - 1 - 2 * nI q) : x = nI x.toNatClampNeg ∧ x.toNatClampNeg + 2 * q + 1 < z := by
  obtain ⟨h1, h2⟩ := h
  rw [i_le, i_0] at h1
  have e1 : (nI z - 1).toInt = (z : Int) - 1 := by rw [i_sub (by rw [nI_toInt (by omega), i_1]; omega) (by rw [nI_toInt (by omega), i_1]; omega), nI_toInt (by omega), i_1]
  rw [i_lt, nI_two, i_sub (by rw [e1, nI_toInt (by omega)]; omega) (by rw [e1, nI_toInt (by omega)]; omega), e1, nI_toInt (by omega)] at h2
  have e : x = nI x.toInt.toNat := by rw [i_eq, nI_toInt (by omega)]; omega
  have c : x.toNatClampNeg = x.toInt.toNat := by
    conv => lhs; rw [e]
    exact nI_clamp (by omega)
  rw [c]
  exact ⟨e, by omega⟩
theorem cc_tenants (h : CI μ n V S K R zz f) (hq : ∀ μ', cf μ μ' → CI μ' n V (y_tn R S w x i k).2 K R zz f → Q (some (.inl (y_tn R S w x i k).1)) μ') : si_W sc (d + 3) 119 0 [some (.inr (.inr (6, 0))), some (.inl w), some (.inl x), some (.inl i), some (.inl k), none, none, none] [] μ Q := by
  unfold y_tn at hq
  have bad : ¬ okN w x k → Q (some (.inl (-2))) μ := fun hn => by
    rw [ic_f hn] at hq; exact hq μ cf.rf h
  refine k_X6_tenants_0 (p_isSheet (k_X6_tenants_4 ⟨fun hz => bad (fun a => bi_0.mp hz a.1), fun hz => p_isWithin (k_X6_tenants_13 ⟨fun hy => bad (fun a => bi_0.mp hy a.2.1), fun hy => p_isWithin (k_X6_tenants_24 ⟨fun hx => ?_, fun hx => bad (fun a => bi_0.mp hx a.2.2)⟩)⟩)⟩))
  have hok : okN w x k := ⟨bi_n hz, bi_n hy, bi_n hx⟩
  rw [ic_t hok] at hq
  obtain ⟨t, ht, rfl⟩ := sh_n hok.1
  have ct : (nI t).toNatClampNeg = t := nI_c (by omega)
  have hk := rg_n (A := 8) (by decide) (by decide) hok.2.2
  have hzt := (h.CR t ht).2.2.1
  rw [ct] at hq
  generalize k.toNatClampNeg = N at hq hk
  obtain ⟨hN, rfl, _⟩ := hk
  refine p_isMissing h.CR ht (k_X6_tenants_38 ⟨fun c1 => ⟨vp_in_nI ht (by omega), fun c2 => ?_, fun c2 => ?_⟩, fun c1 => ?_⟩)
  · rw [ct, (h.CR t ht).1] at c2
    rw [ic_f (bc_0 c1), ic_t c2] at hq
    have lp : ∀ (m q c : Nat) (S1 : gS) (μ1 : si_Mm) (u7 : Option si_AV), q + m = N → c ≤ q → cf μ μ1 → CI μ1 n V S1 K R zz f → (∀ μ', cf μ μ' → CI μ' n V (y_tns R t i m q c S1).2 K R zz f → Q (some (.inl (y_tns R t i m q c S1).1)) μ') → si_W sc (d + 3) 119 66 [some (.inr (.inr (6, 0))), some (.inl (nI t)), some (.inl x), some (.inl i), some (.inl (nI N)), some (.inl (nI c)), some (.inl (nI q)), u7] [] μ1 Q := by
      intro m
      induction m with
      | zero =>
        intro q c S1 μ1 u7 hq8 hc f1 C1 hq
        refine k_X6_tenants_66 ⟨fun _ => hq μ1 f1 C1, fun hn => absurd ?_ hn⟩
        rw [nI_le8 (by omega) (by omega)]; omega
      | succ m ih =>
        intro q c S1 μ1 u7 hq8 hc f1 C1 hq
        rw [y_tns] at hq
        refine k_X6_tenants_66 ⟨fun hn => ?_, fun _ => ⟨fun hn => ?_, fun hp => ⟨vp_in_nI ht (by omega), ?_⟩⟩⟩
        · rw [nI_le8 (by omega) (by omega)] at hn; omega
        · have c' : ¬ (0 ≤ i ∧ i < nI (R.2.1 t) - 1 - 2 * nI q) := fun a => i_nlt.mpr a.1 hn
          rw [ic_f c'] at hq; exact hq μ1 f1 C1
        · rw [ct, (C1.CR t ht).2.1]
          refine ⟨fun hl => ?_, fun hl => ?_⟩
          · have c' : 0 ≤ i ∧ i < nI (R.2.1 t) - 1 - 2 * nI q := ⟨i_nlt.mp hp, hl⟩
            rw [ic_t c'] at hq
            have hf := fr_n hzt (by omega) c'
            generalize ha : i.toNatClampNeg = a at hq hf
            have ei : i + 2 * nI q = nI (a + 2 * q) := by rw [nI_two]; conv => lhs; rw [hf.1]
                                                          rw [nI_add]
            rw [ei]
            refine p_at C1.CR ht (by omega) (k_X6_tenants_119 ?_)
            rw [nI_1]
            refine p_at C1.CR ht (by omega) (k_X6_tenants_131 (cc_tenant C1 fun μ2 f2 C2 => k_X6_tenants_134 ⟨fun hl => ?_, fun hl => ?_⟩))
            · rw [if_pos hl] at hq
              rw [nI_1]
              exact ih (q + 1) c _ μ2 _ (by omega) (by omega) (f1.tr f2) C2 hq
            · rw [if_neg hl] at hq
              rw [nI_1, nI_1]
              exact ih (q + 1) (c + 1) _ μ2 _ (by omega) (by omega) (f1.tr f2) C2 hq
          · have c' : ¬ (0 ≤ i ∧ i < nI (R.2.1 t) - 1 - 2 * nI q) := fun a => hl a.2
            rw [ic_f c'] at hq; exact hq μ1 f1 C1
    exact lp N 0 0 S μ _ (by omega) (by omega) cf.rf h hq
  · rw [ct, (h.CR t ht).1] at c2
    rw [ic_f (bc_0 c1), ic_f c2] at hq; exact hq μ cf.rf h
  · rw [ic_t (bc_n c1)] at hq; exact hq μ cf.rf h
theorem p_isOfKind (hq : Q (some (.inl (bc (uk y 6 x)))) μ) : si_W sc (d + 1) 120 0 [some (.inl x), some (.inl y), none, none] [] μ Q := by
  have lp : ∀ (m q : Nat) (a : Int32), q + m = 6 → Q (some (.inl (bc (uk y m a)))) μ → si_W sc (d + 1) 120 4 [some (.inl x), some (.inl y), some (.inl a), some (.inl (nI q))] [] μ Q := by
    intro m
    induction m with
    | zero =>
      intro q a hq6 hq
      have hn : ¬ uk y 0 a := id
      rw [bc_f hn] at hq
      exact k_X6_isOfKind_4 ⟨fun _ => ⟨b0, hq⟩, fun hn => absurd ((n6 (by omega)).mpr (by omega)) hn⟩
    | succ m ih =>
      intro q a hq6 hq
      refine k_X6_isOfKind_4 ⟨fun hn => absurd ((n6 (by omega)).mp hn) (by omega), fun _ => p_isWithin (k_X6_isOfKind_16 ⟨fun c1 => ⟨b0, ?_⟩, fun c1 => ⟨fun c2 => ⟨st_in (bi_n c1), ?_⟩, fun c2 => ⟨b1, ?_⟩⟩⟩)⟩
      · have hn : ¬ uk y (m + 1) a := by unfold uk; rw [if_neg (bi_0.mp c1)]; exact id
        rw [bc_f hn] at hq; exact hq
      · have he : uk y (m + 1) a ↔ uk y m (si_under a.toNatClampNeg) := by conv => lhs; unfold uk
                                                                           rw [if_pos (bi_n c1), if_neg c2]
        rw [bc_iff he] at hq
        rw [nI_1]; exact ih (q + 1) _ (by omega) hq
      · have hp : uk y (m + 1) a := by unfold uk; rw [if_pos (bi_n c1), if_pos c2]; trivial
        rw [bc_t hp] at hq; exact hq
  exact k_X6_isOfKind_0 (lp 6 0 x (by omega) hq)
theorem cc_taken (h : CI μ n V S K R zz f) (hq : Q (some (.inl (A_taken S o k))) μ) : si_W sc (d + 2) 121 0 [some (.inr (.inr (6, 0))), some (.inl o), some (.inl k)] [] μ Q := by
  unfold A_taken at hq
  obtain ⟨e, h1, _⟩ := h
  refine k_X6_taken_0 (p_isWithin (k_X6_taken_6 ⟨fun c1 => p_isP h1 (k_X6_taken_20 ⟨fun c2 => ⟨isP_in h1.2.2.1 (bc_n c2), ?_⟩, fun c2 => ?_⟩), fun c1 => ?_⟩))
  · rw [ic_t (bi_n c1), ic_t (bc_n c2)] at hq
    rw [h1.r (by decide)]
    refine p_isOfKind (k_X6_taken_39 ⟨fun c3 => ?_, fun c3 => ⟨isP_in h1.2.2.1 (bc_n c2), ?_⟩⟩)
    · rw [ic_f (bc_0 c3)] at hq; exact hq
    · rw [ic_t (bc_n c3)] at hq; rw [h1.r (by decide)]; exact hq
  · rw [ic_t (bi_n c1), ic_f (bc_0 c2)] at hq; exact hq
  · rw [ic_f (bi_0.mp c1)] at hq; exact hq
/-- firstOtherwise, over the thought garden S1 -/
theorem p_fo {S1 : gS} {t s : Nat} {μ1 : si_Mm} (h : CI μ n V S K R zz f) (ht : t < 4) (hs : s < 6) (m1 : mr 1 μ μ1 S1) (w1 : gw S1 n) (r1 : gr S1) (hq : ∀ μ', sx μ μ' → Q (some (.inl (y_fo V R t s (R.2.1 t) 0 S1))) μ') : si_W sc (d + 5) 103 0 [some (.inr (.inr (6, 0))), some (.inl (nI t)), some (.inl (nI s)), none] [] μ1 Q := by
  have ct : (nI t).toNatClampNeg = t := nI_c (by omega)
  have cs : (nI s).toNatClampNeg = s := nI_c (by omega)
  have hzt := (h.CR t ht).2.2.1
  have lp : ∀ (m k : Nat) (S1 : gS) (μ1 : si_Mm), k + m = R.2.1 t → mr 1 μ μ1 S1 → gw S1 n → gr S1 → (∀ μ', sx μ μ' → Q (some (.inl (y_fo V R t s m k S1))) μ') → si_W sc (d + 5) 103 2 [some (.inr (.inr (6, 0))), some (.inl (nI t)), some (.inl (nI s)), some (.inl (nI k))] [] μ1 Q := by
    intro m
    induction m with
    | zero =>
      intro k S1 μ1 hk m1 w1 r1 hq
      have C1 := h.sx (sx.m1 m1 r1)
      refine k_X6_firstOtherwise_2 ⟨vp_in_nI ht (by omega), fun _ => hq μ1 (sx.m1 m1 r1), fun hn => absurd ?_ hn⟩
      rw [ct, (C1.CR t ht).2.1, nI_le8 (by omega) (by omega)]; omega
    | succ m ih =>
      intro k S1 μ1 hk m1 w1 r1 hq
      have C1 := h.sx (sx.m1 m1 r1)
      have g1 := C1.choose_spec.1
      have gV := C1.choose_spec.2.1
      refine k_X6_firstOtherwise_2 ⟨vp_in_nI ht (by omega), fun hn => ?_, fun _ => p_passYear g1.1 (by rw [m1.1]; exact w1) fun μ2 m2 => k_X6_firstOtherwise_22 ⟨vp_in_nI hs (by omega), ?_⟩⟩
      · rw [ct, (C1.CR t ht).2.1, nI_le8 (by omega) (by omega)] at hn; omega
      · rw [m1.1, ← gV] at m2
        have w2 : gw (y_year V S1) n := gw_year w1
        have r2 : gr (y_year V S1) := gr_year h.vr w1 r1
        have m12 := m1.tr m2
        have C2 := h.sx (sx.m1 m12 r2)
        have e14 : μ2.1 14 1 = (y_year V S1) 14 := by rw [← m2.1, vw_at (by decide)]
        rw [cs, e14]
        rw [y_fo] at hq
        refine p_at C2.CR ht (by omega) (k_X6_firstOtherwise_40 ⟨fun c1 => ?_, fun c1 => ?_⟩)
        · rw [if_pos c1] at hq
          rw [nI_1]; exact ih (k + 1) _ μ2 (by omega) m12 w2 r2 hq
        · rw [if_neg c1] at hq
          exact hq μ2 (sx.m1 m12 r2)
  exact k_X6_firstOtherwise_0 (lp _ 0 S1 μ1 (by omega) m1 w1 r1 hq)
theorem who_P {s : Nat} (hw : gw S n) : match who S s with | some p => p < gP S ∧ p < 8 ∧ g_find (S 18) (nI s) (gP S) 0 = nI p ∧ isP S (nI p) | none => g_find (S 18) (nI s) (gP S) 0 = -1 ∧ ¬ isP S (-1) := by
  have h := who_x (S := S) (s := s)
  have h8 := hw.1
  cases hwo : who S s with
  | none => rw [hwo] at h; exact ⟨h, fun a => absurd a.1 (by decide)⟩
  | some p =>
    rw [hwo] at h
    exact ⟨h.1, by omega, h.2, nI_pos' (by omega), (nI_lt8 (by omega) (by omega)).mpr h.1⟩
theorem w_c {hy : 0 ≤ y ∧ y ≤ 5} : y = 0 ∨ y = 1 ∨ y = 2 ∨ y = 3 ∨ y = 4 ∨ y = 5 := by
  obtain ⟨k, hk, rfl⟩ := st_n hy
  rcases (show k = 0 ∨ k = 1 ∨ k = 2 ∨ k = 3 ∨ k = 4 ∨ k = 5 by omega) with rfl | rfl | rfl | rfl | rfl | rfl
  · exact Or.inl rfl
  · exact Or.inr (Or.inl rfl)
  · exact Or.inr (Or.inr (Or.inl rfl))
  · exact Or.inr (Or.inr (Or.inr (Or.inl rfl)))
  · exact Or.inr (Or.inr (Or.inr (Or.inr (Or.inl rfl))))
  · exact Or.inr (Or.inr (Or.inr (Or.inr (Or.inr rfl))))
theorem p_suppositions {s : Nat} (h : CI μ n V S K R zz f) (hy : y = 1 ∨ y = 2 ∨ y = 3 ∨ y = 4 ∨ y = 5) (hq : Q (some (.inl (nI (s_n n S y s)))) μ) : si_W sc (d + 1) 104 0 [some (.inr (.inr (6, 0))), some (.inl y), some (.inl (g_find (S 18) (nI s) (gP S) 0))] [] μ Q := by
  obtain ⟨e, h1, h2, h3, h4⟩ := h
  have hwp := who_P (s := s) h1.2.2.1
  unfold s_n at hq
  refine k_X6_suppositions_0 ⟨fun c1 => ?_, fun c1 => ⟨fun c2 => ?_, fun c2 => ⟨fun c3 => ?_, fun c3 => ⟨fun c4 => ?_, fun c4 => ?_⟩⟩⟩⟩
  · rw [if_pos c1] at hq; rw [h3.2.1]; exact hq
  · rw [if_neg c1, if_pos c2] at hq; exact hq
  · rw [if_neg c1, if_neg c2, if_pos c3] at hq; exact hq
  · rw [if_neg c1, if_neg c2, if_neg c3] at hq
    refine p_isP h1 (k_X6_suppositions_51 ⟨fun c5 => ?_, fun c5 => ?_⟩)
    · cases hwo : who S s with
      | none => rw [hwo] at hq; exact hq
      | some p => rw [hwo] at hwp; rw [hwp.2.2.1] at c5; exact absurd hwp.2.2.2 (bc_0 c5)
    · cases hwo : who S s with
      | none => rw [hwo] at hwp; rw [hwp.1] at c5; exact absurd (bc_n c5) hwp.2
      | some p => rw [hwo] at hq; dsimp only at hq; rw [if_pos c4] at hq; exact hq
  · rw [if_neg c1, if_neg c2, if_neg c3] at hq
    refine p_isP h1 (k_X6_suppositions_69 ⟨fun c5 => ?_, fun c5 => ?_⟩)
    · cases hwo : who S s with
      | none => rw [hwo] at hq; exact hq
      | some p => rw [hwo] at hwp; rw [hwp.2.2.1] at c5; exact absurd hwp.2.2.2 (bc_0 c5)
    · cases hwo : who S s with
      | none => rw [hwo] at hwp; rw [hwp.1] at c5; exact absurd (bc_n c5) hwp.2
      | some p => rw [hwo] at hq; dsimp only at hq; rw [if_neg c4] at hq; exact hq
theorem gwr_s {s c : Nat} (hw : gw S n) (hr : gr S) (hn6 : n ≤ 6) (hs : s < 6) (hy : y = 1 ∨ y = 2 ∨ y = 3 ∨ y = 4 ∨ y = 5) (hc : c < s_n n S y s) : gw (s_s S y s c) n ∧ gr (s_s S y s c) := by
  have hwp := who_P (s := s) hw
  unfold s_n at hc
  unfold s_s
  by_cases c1 : y = 1
  · rw [if_pos c1] at hc ⊢
    have eR : gR (upS S 2 5 (nI c)) = c := by unfold gR; rw [upS_eq, nI_c (by omega)]
    have eP : gP (upS S 2 5 (nI c)) = gP S := by unfold gP upS; rw [if_neg (by decide)]
    refine ⟨⟨by rw [eP]; exact hw.1, ?_, by rw [eR]; exact hc, by rw [eR, upS_eq], fun p hp => ?_⟩, gr_up hr ?_⟩
    · rw [eP]; unfold upS; rw [if_neg (by decide)]; exact hw.2.1
    · rw [eP] at hp; rw [upS_ne (by decide)]; exact hw.2.2.2.2 p hp
    · rw [hi_2.2.2.2.2.2.2.1, hi_2.2.2.2.2.2.2.2.1, nI_toInt (by omega)]; omega
  rw [if_neg c1] at hc ⊢
  by_cases c2 : y = 2
  · rw [if_pos c2] at hc ⊢
    exact ⟨gw_up hw (by decide) (by decide), gr_up hr (by rw [(hi_14 hs).1, (hi_14 hs).2, nI_toInt (by omega)]; omega)⟩
  rw [if_neg c2] at hc ⊢
  by_cases c3 : y = 3
  · rw [if_pos c3] at hc ⊢
    exact ⟨gw_up hw (by decide) (by decide), gr_up hr (by rw [(hi_14 hs).1, (hi_14 hs).2, nI_toInt (by omega)]; omega)⟩
  rw [if_neg c3] at hc ⊢
  cases hwo : who S s with
  | none => exact ⟨hw, hr⟩
  | some p =>
    rw [hwo] at hwp hc
    dsimp only at hc ⊢
    have hp8 : p < 8 := hwp.2.1
    by_cases c4 : y = 4
    · rw [if_pos c4] at hc ⊢
      exact ⟨gw_up hw (by decide) (by decide), gr_up hr (by rw [(hi_16 hp8).1, (hi_16 hp8).2, nI_toInt (by omega)]; omega)⟩
    · rw [if_neg c4] at hc ⊢
      exact ⟨gw_up hw (by decide) (by decide), gr_up hr (by rw [(hi_17 hp8).1, (hi_17 hp8).2, nI_toInt (by omega)]; omega)⟩
theorem p_suppose {s c : Nat} (h : CI μ n V S K R zz f) (hs : s < 6) (hy : y = 1 ∨ y = 2 ∨ y = 3 ∨ y = 4 ∨ y = 5) (hc : c < s_n n S y s) (hq : ∀ μ', mr 1 μ μ' (s_s S y s c) → Q none μ') : si_W sc (d + 1) 105 0 [some (.inr (.inr (6, 0))), some (.inl y), some (.inl (nI s)), some (.inl (g_find (S 18) (nI s) (gP S) 0)), some (.inl (nI c))] [] μ Q := by
  obtain ⟨e, h1, h2, h3, h4⟩ := h
  have hwp := who_P (s := s) h1.2.2.1
  have cs : (nI s).toNatClampNeg = s := nI_c (by omega)
  unfold s_n at hc
  unfold s_s at hq
  refine k_X6_suppose_0 (p_bec h1 fun μ1 m1 => k_X6_suppose_11 ⟨fun c1 => ?_, fun c1 => ⟨fun c2 => ⟨vp_in_nI hs (by omega), ?_⟩, fun c2 => ⟨fun c3 => ⟨vp_in_nI hs (by omega), ?_⟩, fun c3 => ?_⟩⟩⟩)
  · rw [if_pos c1] at hq
    have m2 := m1.tr (mr.ms (g := 1) (a := 2) (k := 5) (μ := μ1) (v := nI c) (by decide))
    rw [m1.1] at m2; exact hq _ m2
  · rw [if_neg c1, if_pos c2] at hq
    have m2 := m1.tr (mr.ms (g := 1) (a := 14) (k := s) (μ := μ1) (v := nI c) (by decide))
    rw [m1.1] at m2; rw [cs]; exact hq _ m2
  · rw [if_neg c1, if_neg c2, if_pos c3] at hq
    have m2 := m1.tr (mr.ms (g := 1) (a := 14) (k := s) (μ := μ1) (v := nI c) (by decide))
    rw [m1.1] at m2; rw [cs]; exact hq _ m2
  · rw [if_neg c1, if_neg c2, if_neg c3] at hq hc
    cases hwo : who S s with
    | none => rw [hwo] at hc; exact absurd hc (Nat.not_lt_zero _)
    | some p =>
      rw [hwo] at hwp hc hq
      dsimp only at hc hq
      have hp8 : p < 8 := hwp.2.1
      have cp : (nI p).toNatClampNeg = p := nI_c (by omega)
      rw [hwp.2.2.1, cp]
      refine ⟨fun c4 => ⟨vp_in_nI hp8 (by omega), ?_⟩, fun c4 => ⟨vp_in_nI hp8 (by omega), ?_⟩⟩
      · rw [if_pos c4] at hq
        have m2 := m1.tr (mr.ms (g := 1) (a := 16) (k := p) (μ := μ1) (v := nI c) (by decide))
        rw [m1.1] at m2; exact hq _ m2
      · rw [if_neg c4] at hq
        have m2 := m1.tr (mr.ms (g := 1) (a := 17) (k := p) (μ := μ1) (v := nI c) (by decide))
        rw [m1.1] at m2; exact hq _ m2
theorem s_n_le {s : Nat} (hn6 : n ≤ 6) : s_n n S y s ≤ 100 := by
  unfold s_n
  by_cases c1 : y = 1
  · rw [if_pos c1]; omega
  rw [if_neg c1]
  by_cases c2 : y = 2
  · rw [if_pos c2]; omega
  rw [if_neg c2]
  by_cases c3 : y = 3
  · rw [if_pos c3]; omega
  rw [if_neg c3]
  cases who S s with
  | none => show 0 ≤ 100; omega
  | some p => show (if y = 4 then 6 else 10) ≤ 100; split <;> omega
set_option maxHeartbeats 1000000 in
theorem cc_tells (h : CI μ n V S K R zz f) (hq : ∀ μ', cf μ μ' → CI μ' n V S K R zz f → Q (some (.inl (A_tells V n S R w x y))) μ') : si_W sc (d + 7) 107 0 [some (.inr (.inr (6, 0))), some (.inl w), some (.inl x), some (.inl y)] [] μ Q := by
  unfold A_tells at hq
  have bad : ¬ okL w x y → Q (some (.inl (-2))) μ := fun hn => by
    rw [ic_f hn] at hq; exact hq μ cf.rf h
  refine k_X6_tells_0 (p_isSheet (k_X6_tells_4 ⟨fun hz => bad (fun a => bi_0.mp hz a.1), fun hz => p_isStrip (k_X6_tells_11 ⟨fun hy => bad (fun a => bi_0.mp hy a.2.1), fun hy => p_isWithin (k_X6_tells_20 ⟨fun hx => ?_, fun hx => bad (fun a => bi_0.mp hx a.2.2)⟩)⟩)⟩))
  have hok : okL w x y := ⟨bi_n hz, bi_n hy, bi_n hx⟩
  rw [ic_t hok] at hq
  obtain ⟨t, ht, rfl⟩ := sh_n hok.1
  obtain ⟨s, hs, rfl⟩ := st_n hok.2.1
  have ct : (nI t).toNatClampNeg = t := nI_c (by omega)
  have cs : (nI s).toNatClampNeg = s := nI_c (by omega)
  rw [ct, cs] at hq
  refine p_isMissing h.CR ht (k_X6_tells_34 ⟨fun c1 => ⟨vp_in_nI ht (by omega), fun c2 => ?_, fun c2 => ?_⟩, fun c1 => ?_⟩)
  · rw [ct, (h.CR t ht).2.1] at c2
    rw [ic_f (bc_0 c1), ic_t c2] at hq
    refine ⟨fun c3 => ?_, fun c3 => ?_⟩
    · rw [ic_f c3] at hq
      have hyc : y = 1 ∨ y = 2 ∨ y = 3 ∨ y = 4 ∨ y = 5 := (w_c (hy := hok.2.2)).resolve_left c3
      have g1 := h.choose_spec.1
      refine k_X6_whatFits_0 (p_holder g1.P g1.2.2.1.1 ?_)
      rw [g1.r (by decide)]
      refine k_X6_whatFits_8 (p_suppositions h hyc (k_X6_whatFits_17 ?_))
      have lp : ∀ (m c : Nat) (q : Int32 × Int32 × Int32) (μ1 : si_Mm), c + m = s_n n S y s → sx μ μ1 → (∀ μ', sx μ μ' → Q (some (.inl (pick y (y_wf (s_ok V R S t s y) m c q)))) μ') → si_W sc (d + 6) 106 31 [some (.inr (.inr (6, 0))), some (.inl (nI t)), some (.inl (nI s)), some (.inl y), some (.inl (g_find (S 18) (nI s) (gP S) 0)), some (.inl (nI (s_n n S y s))), some (.inl q.1), some (.inl q.2.1), some (.inl q.2.2), some (.inl (nI c))] [] μ1 (fun rv μq => si_W sc (d + 7) 107 86 [some (.inr (.inr (6, 0))), some (.inl (nI t)), some (.inl (nI s)), some (.inl y)] (si_rt rv []) μq Q) := by
        have h100 := s_n_le (S := S) (y := y) (s := s) h.n6
        intro m
        induction m with
        | zero =>
          intro c q μ1 hc s1 hq
          have q1 := hq μ1 s1
          unfold pick y_wf at q1
          refine k_X6_whatFits_31 ⟨fun _ => ⟨fun d2 => ⟨fun d3 => k_X6_tells_86 ?_, fun d3 => k_X6_tells_86 ?_⟩, fun d2 => k_X6_tells_86 ?_⟩, fun hn => absurd ?_ hn⟩
          · rw [if_neg d2, if_neg d3] at q1; exact q1
          · rw [if_neg d2, if_pos d3] at q1; exact q1
          · rw [if_pos d2] at q1; exact q1
          · rw [nI_le8 (by omega) (by omega)]; omega
        | succ m ih =>
          intro c q μ1 hc s1 hq
          have C1 := h.sx s1
          rw [y_wf] at hq
          refine k_X6_whatFits_31 ⟨fun hn => ?_, fun _ => p_suppose C1 hs hyc (by omega) fun μ2 m2 => k_X6_whatFits_48 ?_⟩
          · rw [nI_le8 (by omega) (by omega)] at hn; omega
          · have g2 := gwr_s (c := c) h.gw h.gr h.n6 hs hyc (by omega)
            refine p_fo C1 ht hs m2 g2.1 g2.2 fun μ3 s3 => k_X6_whatFits_54 ⟨fun d1 => ?_, fun d1 => ⟨fun d2 => ?_, fun d2 => ?_⟩⟩
            · have d1' : ¬ s_ok V R S t s y c := d1
              rw [ic_f d1'] at hq
              rw [nI_1]; exact ih (c + 1) q μ3 (by omega) (s1.tr s3) hq
            · have d1' : s_ok V R S t s y c := d1
              rw [ic_t d1', if_neg d2] at hq
              rw [nI_1]; exact ih (c + 1) _ μ3 (by omega) (s1.tr s3) hq
            · have d1' : s_ok V R S t s y c := d1
              rw [ic_t d1', if_pos d2] at hq
              rw [nI_1]; exact ih (c + 1) _ μ3 (by omega) (s1.tr s3) hq
      exact lp _ 0 (0, -1, 0) μ (by omega) (sx.rf g1.2.2.2.2.1) fun μ' s' => hq μ' s'.cf (h.sx s')
    · rw [ic_t c3] at hq
      have g1 := h.choose_spec.1
      refine p_bec g1 fun μ1 m1 => k_X6_tells_72 (p_fo h ht hs m1 h.gw h.gr fun μ2 s2 => k_X6_tells_78 (hq μ2 s2.cf (h.sx s2)))
  · rw [ct, (h.CR t ht).2.1] at c2
    rw [ic_f (bc_0 c1), ic_f c2] at hq; exact hq μ cf.rf h
  · rw [ic_t (bc_n c1)] at hq; exact hq μ cf.rf h
end CG
