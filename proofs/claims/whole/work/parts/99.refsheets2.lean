/-! the reference: copy, tenants, film -/
section RXb
variable {sc : si_Sc} {d : Nat} {μ μ' : si_Mm} {Q : si_Po} {n : Nat} {V : VT} {S S' : gS} {K : Option gS} {R R' : shT} {zz : Nat} {f : Nat → Int32} {w o v x y : Int32}
theorem RR_copy {s i o j k : Nat} (h : RR μ R) (hs : s < 4) (ho : o < 4) (hn1 : R.1 s ≠ -1) (hi : i + k ≤ R.2.1 s) (hj : j + k ≤ R.2.1 o) (al : ∀ a i' c, ¬ (a = 44) → μ'.1 a i' c = μ.1 a i' c) (h1 : ∀ q, q < k → μ'.1 44 0 (40 * o + j + q) = μ.1 44 0 (40 * s + i + q)) (h2 : ∀ c, ¬ (40 * o + j ≤ c ∧ c < 40 * o + j + k) → μ'.1 44 0 c = μ.1 44 0 c) : RR μ' (r_copy R s i o j k) := by
  intro t' ht'
  obtain ⟨a1, a2, a3⟩ := h t' ht'
  obtain ⟨b1, b2, b3⟩ := h s hs
  obtain ⟨c1, c2, c3⟩ := h o ho
  unfold r_copy
  dsimp only
  rw [al 41 0 t' (by omega), al 42 0 t' (by omega), al 43 0 t' (by omega)]
  refine ⟨a1, a2, fun ne => ⟨(a3 ne).1, (a3 ne).2.1, (a3 ne).2.2.1, fun q hq => ?_⟩⟩
  by_cases e1 : t' = o
  · subst e1
    rw [fu_eq]
    by_cases e2 : j ≤ q ∧ q < j + k
    · rw [if_pos e2]
      have z := h1 (q - j) (by omega)
      rw [show 40 * t' + j + (q - j) = 40 * t' + q by omega] at z
      rw [z, show 40 * s + i + (q - j) = 40 * s + (i + (q - j)) by omega]
      exact (b3 hn1).2.2.2 _ (by omega)
    · rw [if_neg e2, h2 _ (by omega)]; exact (a3 ne).2.2.2 q hq
  · rw [fu_ne e1, h2 _ (by omega)]; exact (a3 ne).2.2.2 q hq
set_option maxHeartbeats 1000000 in
theorem rc_copy {i j k : Int32} (h : RI μ n V S K R zz f) (hq : ∀ μ', rf μ μ' → RI μ' n V S K (N_copy R w i o j k) zz f → Q (some (.inl (A_copy R w i o j k))) μ') : si_W sc (d + 2) 230 0 [some (.inr (.inr (7, 0))), some (.inl w), some (.inl i), some (.inl o), some (.inl j), some (.inl k), none, none, none] [] μ Q := by
  unfold A_copy N_copy at hq
  have hbad : ¬ okY w o → Q (some (.inl (-2))) μ := fun c => by rw [ic_f c, ic_f c] at hq; exact hq μ rf.refl h
  refine k_X7_copy_0 (r_isSheet (k_X7_copy_4 ⟨fun c => k_X7_copy_14 (hbad (fun a => bc_0 c a.1)), fun c => r_isSheet (k_X7_copy_11 ⟨fun c2 => ?_, fun c2 => k_X7_copy_14 (hbad (fun a => bc_0 c2 a.2))⟩)⟩))
  have hok : okY w o := ⟨bc_n c, bc_n c2⟩
  rw [ic_t hok, ic_t hok] at hq
  obtain ⟨s, hs, rfl⟩ := sh_n hok.1
  obtain ⟨t, ht, rfl⟩ := sh_n hok.2
  have cs : (nI s).toNatClampNeg = s := nI_c (by omega)
  have ct : (nI t).toNatClampNeg = t := nI_c (by omega)
  have ins : vp_in (nI s) 4 := vp_in_nI (by omega) (by omega)
  have int : vp_in (nI t) 4 := vp_in_nI (by omega) (by omega)
  obtain ⟨a1, a2, a3⟩ := h.2.2.2.1 s hs
  obtain ⟨b1, b2, b3⟩ := h.2.2.2.1 t ht
  unfold inY at hq
  rw [cs, ct] at hq
  rw [cs, ct, nIe (by omega) (by omega)]
  have miss : (R.1 s = -1 ∨ R.1 t = -1) → Q (some (.inl (-11))) μ := fun e => by rw [ic_t e, ic_t e] at hq; exact hq μ rf.refl h
  by_cases ns : R.1 s = -1
  · refine ⟨ins, fun _ => k_X7_copy_35 (miss (Or.inl ns)), fun e => absurd (a2 ns) e⟩
  by_cases nt : R.1 t = -1
  · refine ⟨ins, fun _ => k_X7_copy_35 (miss (Or.inr nt)), fun _ => ⟨int, fun e => absurd (b2 nt) e, fun _ => k_X7_copy_35 (miss (Or.inr nt))⟩⟩
  have nm : ¬ (R.1 s = -1 ∨ R.1 t = -1) := fun e => e.elim ns nt
  rw [ic_f nm, ic_f nm] at hq
  obtain ⟨p1, p2, p3, p4⟩ := a3 ns
  obtain ⟨q1, q2, q3, q4⟩ := b3 nt
  rw [p1, q1, p2, q2, p3, q3]
  refine ⟨ins, fun e => absurd e (by decide), fun _ => ⟨int, fun _ => ⟨ins, int, fun same => ?_, fun diff => ?_⟩, fun e => absurd e (by decide)⟩⟩
  · rw [ic_t same, ic_t same] at hq
    have out : ¬ (hold (R.2.1 s) i k ∧ hold (R.2.1 t) j k) → Q (some (.inl (-12))) μ := fun e => by rw [ic_f e, ic_f e] at hq; exact hq μ rf.refl h
    refine ⟨fun k0 => k_X7_copy_97 (out fun z => i_nlt.mpr z.1.1 k0), fun k0 => ⟨fun i0 => k_X7_copy_97 (out fun z => i_nlt.mpr z.1.2.1 i0), fun i0 => ⟨fun j0 => k_X7_copy_97 (out fun z => i_nlt.mpr z.2.2.1 j0), fun j0 => ⟨ins, fun ib => k_X7_copy_97 (out fun z => i_nlt.mpr z.1.2.2 ib), fun ib => ⟨int, fun jb => ?_, fun jb => k_X7_copy_97 (out fun z => jb z.2.2.2)⟩⟩⟩⟩⟩
    have hin : hold (R.2.1 s) i k ∧ hold (R.2.1 t) j k := ⟨⟨i_nlt.mp k0, i_nlt.mp i0, i_nlt.mp ib⟩, ⟨i_nlt.mp k0, i_nlt.mp j0, jb⟩⟩
    rw [ic_t hin, ic_t hin] at hq
    obtain ⟨i', k', rfl, rfl, hik⟩ := hold_n a1 hin.1
    obtain ⟨j', k2, rfl, ek, hjk⟩ := hold_n b1 hin.2
    have ci : (nI i').toNatClampNeg = i' := nI_c (by omega)
    have cj : (nI j').toNatClampNeg = j' := nI_c (by omega)
    have ckk : (nI k').toNatClampNeg = k' := nI_c (by omega)
    rw [nIe (by omega) (by omega)] at ek
    subst ek
    rw [ci, cj, ckk] at hq
    have fin : ∀ μ2 : si_Mm, (∀ a i' c, ¬ (a = 44) → μ2.1 a i' c = μ.1 a i' c) → (∀ q, q < k' → μ2.1 44 0 (40 * t + j' + q) = μ.1 44 0 (40 * s + i' + q)) → (∀ c, ¬ (40 * t + j' ≤ c ∧ c < 40 * t + j' + k') → μ2.1 44 0 c = μ.1 44 0 c) → Q (some (.inl (nI k'))) μ2 := fun μ2 al e1 e2 => by
      have z := h.sh (μ' := μ2) (R' := r_copy R s i' t j' k') (fun a i j e => al a i j (by omega)) (RR_copy h.2.2.2.1 hs ht ns hik hjk al e1 e2)
      exact hq μ2 z.1 z.2
    have ad : ∀ a b q : Nat, 40 * nI a + nI b + nI q = nI (40 * a + b + q) := fun a b q => by rw [n40x, nI_add]
    have e1' : (1 : Int32) = nI 1 := rfl
    -- forwards
    have fw1 : (s ≠ t ∨ j' ≤ i') → si_W sc (d + 1 + 1) 230 115 [some (.inr (.inr (7, 0))), some (.inl (nI s)), some (.inl (nI i')), some (.inl (nI t)), some (.inl (nI j')), some (.inl (nI k')), none, none, none] [] μ Q := fun hst => by
      have lp : ∀ (m q : Nat) (μ1 : si_Mm) (u : Option si_AV), q + m = k' → (∀ a i' c, ¬ (a = 44) → μ1.1 a i' c = μ.1 a i' c) → (∀ r, r < q → μ1.1 44 0 (40 * t + j' + r) = μ.1 44 0 (40 * s + i' + r)) → (∀ c, ¬ (40 * t + j' ≤ c ∧ c < 40 * t + j' + q) → μ1.1 44 0 c = μ.1 44 0 c) → si_W sc (d + 1 + 1) 230 121 [some (.inr (.inr (7, 0))), some (.inl (nI s)), some (.inl (nI i')), some (.inl (nI t)), some (.inl (nI j')), some (.inl (nI k')), some (.inl 0), some (.inl (nI q)), u] [] μ1 Q := by
        intro m
        induction m with
        | zero =>
          intro q μ1 u hk al e1 e2
          have eq : q = k' := by omega
          subst eq
          refine k_X7_copy_121 ⟨fun _ => fin μ1 al e1 e2, fun hn => absurd ?_ hn⟩
          rw [nI_le8 (by omega) (by omega)]; omega
        | succ m ih =>
          intro q μ1 u hk al e1 e2
          refine k_X7_copy_121 ⟨fun hn => ?_, fun _ => ⟨fun _ => k_X7_copy_145 ?_, fun c => absurd rfl c⟩⟩
          · rw [nI_le8 (by omega) (by omega)] at hn; omega
          · have c1 : (nI (40 * s + i' + q)).toNatClampNeg = 40 * s + i' + q := nI_c (by omega)
            have c2 : (nI (40 * t + j' + q)).toNatClampNeg = 40 * t + j' + q := nI_c (by omega)
            rw [ad, ad, c1, c2, nI_1, e2 (40 * s + i' + q) (by omega)]
            refine ⟨vp_in_nI (by omega) (by omega), vp_in_nI (by omega) (by omega), ih (q + 1) _ _ (by omega) (fun a i' c e => by rw [ms_eq, if_neg (by omega)]; exact al a i' c e) (fun r hr => ?_) (fun c e => by rw [ms_eq, if_neg (by omega)]; exact e2 c (by omega))⟩
            rw [ms_eq]
            by_cases er : r = q
            · subst er; rw [if_pos ⟨rfl, rfl, rfl⟩]
            · rw [if_neg (by omega)]; exact e1 r (by omega)
      exact k_X7_copy_115 (k_X7_copy_116 (lp k' 0 μ none (by omega) (fun _ _ _ _ => rfl) (fun r hr => absurd hr (Nat.not_lt_zero r)) (fun _ _ => rfl)))
    refine ⟨fun ne => fw1 (Or.inl ne), fun est => ⟨fun c => fw1 (Or.inr ?_), fun c => ?_⟩⟩
    · rw [nI_le8 (by omega) (by omega)] at c; exact c
    · rw [nI_le8 (by omega) (by omega)] at c
      subst est
      have lp : ∀ (m q : Nat) (μ1 : si_Mm) (u : Option si_AV), q + m = k' → (∀ a i' c, ¬ (a = 44) → μ1.1 a i' c = μ.1 a i' c) → (∀ r, k' - q ≤ r → r < k' → μ1.1 44 0 (40 * s + j' + r) = μ.1 44 0 (40 * s + i' + r)) → (∀ c, ¬ (40 * s + j' + (k' - q) ≤ c ∧ c < 40 * s + j' + k') → μ1.1 44 0 c = μ.1 44 0 c) → si_W sc (d + 1 + 1) 230 121 [some (.inr (.inr (7, 0))), some (.inl (nI s)), some (.inl (nI i')), some (.inl (nI s)), some (.inl (nI j')), some (.inl (nI k')), some (.inl 1), some (.inl (nI q)), u] [] μ1 Q := by
        intro m
        induction m with
        | zero =>
          intro q μ1 u hk al e1 e2
          refine k_X7_copy_121 ⟨fun _ => fin μ1 al (fun r hr => e1 r (by omega) hr) (fun c e => e2 c (by omega)), fun hn => absurd ?_ hn⟩
          rw [nI_le8 (by omega) (by omega)]; omega
        | succ m ih =>
          intro q μ1 u hk al e1 e2
          refine k_X7_copy_121 ⟨fun hn => ?_, fun _ => ⟨fun c => absurd c (by decide), fun _ => k_X7_copy_145 ?_⟩⟩
          · rw [nI_le8 (by omega) (by omega)] at hn; omega
          · have sb : nI k' - 1 - nI q = nI (k' - 1 - q) := by rw [nI_sub1 (by omega) (by omega), pk_sub (by omega)]
            have c1 : (nI (40 * s + i' + (k' - 1 - q))).toNatClampNeg = 40 * s + i' + (k' - 1 - q) := nI_c (by omega)
            have c2 : (nI (40 * s + j' + (k' - 1 - q))).toNatClampNeg = 40 * s + j' + (k' - 1 - q) := nI_c (by omega)
            rw [sb, ad, ad, c1, c2, nI_1, e2 (40 * s + i' + (k' - 1 - q)) (by omega)]
            refine ⟨vp_in_nI (by omega) (by omega), vp_in_nI (by omega) (by omega), ih (q + 1) _ _ (by omega) (fun a i' c e => by rw [ms_eq, if_neg (by omega)]; exact al a i' c e) (fun r h1 h2 => ?_) (fun c e => by rw [ms_eq, if_neg (by omega)]; exact e2 c (by omega))⟩
            rw [ms_eq]
            by_cases er : r = k' - 1 - q
            · subst er; rw [if_pos ⟨rfl, rfl, rfl⟩]
            · rw [if_neg (by omega)]; exact e1 r (by omega) h2
      exact k_X7_copy_116 (lp k' 0 μ none (by omega) (fun _ _ _ _ => rfl) (fun r h1 h2 => absurd h2 (by omega)) (fun _ _ => rfl))
  · rw [ic_f diff, ic_f diff] at hq; exact hq μ rf.refl h
theorem rc_tenants {a k : Int32} (h : RI μ n V S K R zz f) (hq : ∀ μ', rf μ μ' → RI μ' n V (y_tn R S w x a k).2 K R zz f → Q (some (.inl (y_tn R S w x a k).1)) μ') : si_W sc (d + 3) 231 0 [some (.inr (.inr (7, 0))), some (.inl w), some (.inl x), some (.inl a), some (.inl k), none, none, none] [] μ Q := by
  unfold y_tn at hq
  have hbad : ¬ okN w x k → Q (some (.inl (-2))) μ := fun c => by rw [ic_f c] at hq; exact hq μ rf.refl h
  refine k_X7_tenants_0 (r_isSheet (k_X7_tenants_4 ⟨fun c => hbad (fun a => bc_0 c a.1), fun c => r_in l0 c2_ (k_X7_tenants_16 ⟨fun c2 => hbad (fun a => bc_0 c2 a.2.1), fun c2 => r_in l0 c8_ (k_X7_tenants_29 ⟨fun c3 => ?_, fun c3 => hbad (fun a => bc_0 c3 a.2.2)⟩)⟩)⟩))
  have hok : okN w x k := ⟨bc_n c, bc_n c2, bc_n c3⟩
  rw [ic_t hok] at hq
  obtain ⟨t, ht, rfl⟩ := sh_n hok.1
  have ct : (nI t).toNatClampNeg = t := nI_c (by omega)
  have hin : vp_in (nI t) 4 := vp_in_nI (by omega) (by omega)
  obtain ⟨a1, a2, a3⟩ := h.2.2.2.1 t ht
  rw [ct] at hq ⊢
  by_cases ns : R.1 t = -1
  · rw [ic_t ns] at hq
    have z := a2 ns
    exact ⟨hin, fun _ => ⟨hin, fun c => absurd z c, fun _ => hq μ rf.refl h⟩, fun c => absurd z c⟩
  rw [ic_f ns] at hq
  obtain ⟨p1, p2, p3, p4⟩ := a3 ns
  rw [p1, p2]
  refine ⟨hin, fun e => absurd e (by decide), fun _ => ⟨hin, fun same => ⟨hin, fun _ => ?_, fun e => absurd e (by decide)⟩, fun diff => ?_⟩⟩
  · rw [ic_t same] at hq
    have hk := rg_n (A := 8) (lo := 0) (hi := 8) (by decide) (by decide) hok.2.2
    generalize k.toNatClampNeg = k' at hk hq
    obtain ⟨hk8, rfl, _⟩ := hk
    have lp : ∀ (m q c : Nat) (S1 : gS) (μ1 : si_Mm) (u : Option si_AV), q + m = k' → c ≤ q → rf μ μ1 → RI μ1 n V S1 K R zz f → (∀ μ', rf μ μ' → RI μ' n V (y_tns R t a m q c S1).2 K R zz f → Q (some (.inl (y_tns R t a m q c S1).1)) μ') → si_W sc (d + 3) 231 75 [some (.inr (.inr (7, 0))), some (.inl (nI t)), some (.inl x), some (.inl a), some (.inl (nI k')), some (.inl (nI c)), some (.inl (nI q)), u] [] μ1 Q := by
      intro m
      induction m with
      | zero =>
        intro q c S1 μ1 u hk hcq r1 h1 hq
        refine k_X7_tenants_75 ⟨fun _ => hq μ1 r1 h1, fun hn => absurd ?_ hn⟩
        rw [nI_le8 (by omega) (by omega)]; omega
      | succ m ih =>
        intro q c S1 μ1 u hk hcq r1 h1 hq
        obtain ⟨z1, z2, z3⟩ := h1.2.2.2.1 t ht
        obtain ⟨g1, g2, g3, g4⟩ := z3 ns
        rw [y_tns] at hq
        have e2 : (2 : Int32) = nI 2 := rfl
        have e1 : (1 : Int32) = nI 1 := rfl
        have two : (2 : Int32) * nI q = nI (2 * q) := by rw [e2, pk_mul]
        rw [two] at hq
        refine k_X7_tenants_75 ⟨fun hn => ?_, fun _ => ⟨fun a0 => ?_, fun a0 => ⟨hin, ?_⟩⟩⟩
        · rw [nI_le8 (by omega) (by omega)] at hn; omega
        · have nc : ¬ (0 ≤ a ∧ a < nI (R.2.1 t) - 1 - nI (2 * q)) := fun z => i_nlt.mpr z.1 a0
          rw [ic_f nc] at hq; exact hq μ1 r1 h1
        · rw [ct, g3, two]
          have i2 : (2 : Int32).toInt = 2 := by decide
          have s1 : (nI (R.2.1 t) - nI (2 * q) - 2).toInt = (R.2.1 t : Int) - 2 * q - 2 := by
            rw [i_sub (by rw [i_sub (by rw [nI_toInt (by omega), nI_toInt (by omega)]; omega) (by rw [nI_toInt (by omega), nI_toInt (by omega)]; omega), nI_toInt (by omega), nI_toInt (by omega), i2]; omega) (by rw [i_sub (by rw [nI_toInt (by omega), nI_toInt (by omega)]; omega) (by rw [nI_toInt (by omega), nI_toInt (by omega)]; omega), nI_toInt (by omega), nI_toInt (by omega), i2]; omega), i_sub (by rw [nI_toInt (by omega), nI_toInt (by omega)]; omega) (by rw [nI_toInt (by omega), nI_toInt (by omega)]; omega), nI_toInt (by omega), nI_toInt (by omega), i2]
            omega
          have s2 : (nI (R.2.1 t) - 1 - nI (2 * q)).toInt = (R.2.1 t : Int) - 1 - 2 * q := by
            rw [i_sub (by rw [i_sub (by rw [nI_toInt (by omega), i_1]; omega) (by rw [nI_toInt (by omega), i_1]; omega), nI_toInt (by omega), nI_toInt (by omega), i_1]; omega) (by rw [i_sub (by rw [nI_toInt (by omega), i_1]; omega) (by rw [nI_toInt (by omega), i_1]; omega), nI_toInt (by omega), nI_toInt (by omega), i_1]; omega), i_sub (by rw [nI_toInt (by omega), i_1]; omega) (by rw [nI_toInt (by omega), i_1]; omega), nI_toInt (by omega), nI_toInt (by omega), i_1]
            omega
          refine ⟨fun ca => ?_, fun ca => ?_⟩
          · rw [i_le, s1] at ca
            have a0' := i_nlt.mp a0
            rw [i_le, i_0] at a0'
            obtain ⟨a', ea⟩ : ∃ a' : Nat, a = nI a' ∧ a' + 2 * q + 1 < R.2.1 t := ⟨a.toInt.toNat, by rw [i_eq, nI_toInt (by omega)]; omega, by omega⟩
            obtain ⟨rfl, ha'⟩ := ea
            have yc : 0 ≤ nI a' ∧ nI a' < nI (R.2.1 t) - 1 - nI (2 * q) := ⟨i_nlt.mp a0, by rw [i_lt, s2, nI_toInt (by omega)]; omega⟩
            have ca' : (nI a').toNatClampNeg = a' := nI_c (by omega)
            rw [ic_t yc, ca'] at hq
            have x1 : 40 * nI t + nI a' + nI (2 * q) = nI (40 * t + (a' + 2 * q)) := by rw [n40x, nI_add, Nat.add_assoc]
            rw [x1, nI_1]
            have cc1 : (nI (40 * t + (a' + 2 * q))).toNatClampNeg = 40 * t + (a' + 2 * q) := nI_c (by omega)
            have cc2 : (nI (40 * t + (a' + 2 * q) + 1)).toNatClampNeg = 40 * t + (a' + 2 * q + 1) := nI_c (by omega)
            rw [cc1, cc2, g4 _ (by omega), g4 _ (by omega)]
            refine ⟨vp_in_nI (by omega) (by omega), vp_in_nI (by omega) (by omega), rc_tenant h1 fun μ2 r2 h2 => k_X7_tenants_141 ⟨fun cn => ?_, fun cn => ?_⟩⟩
            · rw [if_pos cn] at hq
              rw [Int32.add_zero, nI_1]
              exact ih (q + 1) c _ μ2 _ (by omega) (by omega) (r1.tr r2) h2 hq
            · rw [if_neg cn] at hq
              rw [nI_1, nI_1]
              exact ih (q + 1) (c + 1) _ μ2 _ (by omega) (by omega) (r1.tr r2) h2 hq
          · have nc : ¬ (0 ≤ a ∧ a < nI (R.2.1 t) - 1 - nI (2 * q)) := fun z => ca (by
              have z2 := z.2
              rw [i_lt, s2] at z2
              rw [i_le, s1]; omega)
            rw [ic_f nc] at hq; exact hq μ1 r1 h1
    exact lp k' 0 0 S μ none (by omega) (by omega) rf.refl h hq
  · rw [ic_f diff] at hq; exact hq μ rf.refl h
theorem TH.sh {c : Nat} {μ1 : si_Mm} (h : TH μ μ1) : TH (si_ms μ 44 0 c v) (si_ms μ1 44 0 c v) := by
  refine ⟨fun a i j e1 e2 => ?_, fun k hk => ?_, ?_⟩
  · rw [ms_eq, ms_eq]
    split
    · rfl
    · exact h.1 a i j e1 e2
  · rw [ms_eq, if_neg (by omega), ms_eq, if_neg (by omega)]; exact h.2.1 k hk
  · rw [ms_eq, if_neg (by omega), ms_eq, if_neg (by omega)]; exact h.2.2
theorem RG.sh {c : Nat} (h : RG μ n V S) : RG (si_ms μ 44 0 c v) n V S := ⟨h.1.of (fun j _ => by rw [ms_eq, if_neg (by omega)]) (by funext j; rw [ms_eq, if_neg (by omega)]) (by funext j; rw [ms_eq, if_neg (by omega)]) (by funext j; rw [ms_eq, if_neg (by omega)]) (fun k _ => by rw [ms_eq, if_neg (by omega)]) h.2.1.1, h.2.1, h.2.2.1, h.2.2.2.1, h.2.2.2.2.1.of (by funext j; rw [ms_eq, if_neg (by omega)]) (by funext j; rw [ms_eq, if_neg (by omega)]), h.2.2.2.2.2⟩
theorem i8_s : ∀ k, k ≤ 99 → (Int32.toInt8 (nI k)).toInt32 = nI k := by decide +kernel
theorem cv_0 {s : Nat} (h : gr S) (hs : s < 6) : cv 0 (S 14 s) = S 14 s := by
  have z := h 14 s
  rw [(hi_14 hs).1, (hi_14 hs).2] at z
  have e : S 14 s = nI (S 14 s).toInt.toNat := by rw [i_eq, nI_toInt (by omega)]; omega
  unfold cv
  rw [if_pos rfl, e]; exact i8_s _ (by omega)
theorem rc_film (h : RI μ n V S K R zz f) (hq : ∀ μ', rf μ μ' → RI μ' n V S K (N_film V S R w x y) zz f → Q (some (.inl (A_film w x y))) μ') : si_W sc (d + 46) 222 0 [some (.inr (.inr (7, 0))), some (.inl w), some (.inl x), some (.inl y), none] [] μ Q := by
  unfold A_film N_film at hq
  have hbad : ¬ okF w x y → Q (some (.inl (-2))) μ := fun c => by rw [ic_f c, ic_f c] at hq; exact hq μ rf.refl h
  refine k_X7_film_0 (r_isSheet (k_X7_film_4 ⟨fun c => hbad (fun a => bc_0 c a.1), fun c => r_isStrip (k_X7_film_11 ⟨fun c2 => hbad (fun a => bc_0 c2 a.2.1), fun c2 => r_in l0 c30_ (k_X7_film_23 ⟨fun c3 => ?_, fun c3 => hbad (fun a => bc_0 c3 a.2.2)⟩)⟩)⟩))
  have hok : okF w x y := ⟨bc_n c, bc_n c2, bc_n c3⟩
  rw [ic_t hok, ic_t hok] at hq
  obtain ⟨t, ht, rfl⟩ := sh_n hok.1
  obtain ⟨s, hs, rfl⟩ := st_n hok.2.1
  obtain ⟨N, hN, rfl⟩ := sp_n hok.2.2
  have ct : (nI t).toNatClampNeg = t := nI_c (by omega)
  have cs : (nI s).toNatClampNeg = s := nI_c (by omega)
  rw [ct, cs, tN N hN] at hq
  refine rc_sheet h fun μ1 r1 h1 => k_X7_film_36 ?_
  have eN : N_sheet R (nI t) 0 (nI N) = r_lay R t 0 N := by
    unfold N_sheet
    have o1 : okS (nI t) 0 := ⟨hok.1, by decide⟩
    have o2 : ¬ (0 : Int32) = -1 := by decide
    have o3 : nI N ≤ 40 := nI_le (b := 40) (by omega) (by decide)
    have o4 : (0 : Int32) ≤ nI N := nI_pos' (by omega)
    rw [ic_t o1, ic_f o2, ic_t o3, ic_t o4, ct, tN N hN]
  rw [eN] at h1
  refine r_aside h1.1 fun μ2 t2 h2 => k_X7_film_41 ?_
  have lp : ∀ (m k : Nat) (S1 : gS) (R1 : shT) (μb μ2 : si_Mm), k + m = N → R1.1 t = 0 → R1.2.1 t = N → rf μ μb → RI μb n V S K R1 zz f → TH μb μ2 → RG μ2 n V S1 → (∀ μ', rf μ μ' → RI μ' n V S K (y_film V t s m k S1 R1) zz f → Q (some (.inl (nI N))) μ') → si_W sc (d + 46) 222 44 [some (.inr (.inr (7, 0))), some (.inl (nI t)), some (.inl (nI s)), some (.inl (nI N)), some (.inl (nI k))] [] μ2 Q := by
    intro m
    induction m with
    | zero =>
      intro k S1 R1 μb μ2 hk e0 eN rb hb t2 h2 hq
      refine k_X7_film_44 ⟨fun _ => r_back1 t2 fun μ' f' _ => k_X7_film_82 (hq μ' (rb.tr (rf_of f'.t.o)) (hb.t f'.t)), fun hn => absurd ?_ hn⟩
      rw [nI_le8 (by omega) (by omega)]; omega
    | succ m ih =>
      intro k S1 R1 μb μ2 hk e0 eN rb hb t2 h2 hq
      refine k_X7_film_44 ⟨fun hn => ?_, fun _ => r_lives h2 fun μ3 f3 h3 => k_X7_film_54 ?_⟩
      · rw [nI_le8 (by omega) (by omega)] at hn; omega
      · have cc : (nI (40 * t + k)).toNatClampNeg = 40 * t + k := nI_c (by omega)
        rw [n40x, cc, cs, nI_1, (h3.1.2.2.2.2.2.1 s hs).1]
        have t3 := t2.g f3
        have ev : cv (R1.1 t) ((y_year V S1) 14 s) = (y_year V S1) 14 s := by rw [e0]; exact cv_0 h3.2.2.1 hs
        have rp := RR_put (v := (y_year V S1) 14 s) hb.2.2.2.1 ht (show k < R1.2.1 t by omega) (by rw [e0]; decide)
        rw [ev] at rp
        have z := hb.sh (μ' := si_ms μb 44 0 (40 * t + k) ((y_year V S1) 14 s)) (R' := r_put R1 t k ((y_year V S1) 14 s)) (fun a i j e => by rw [ms_eq, if_neg (by omega)]) rp
        exact ⟨vp_in_nI (by omega) (by omega), vp_in_nI (by omega) (by omega), ih (k + 1) _ (r_put R1 t k ((y_year V S1) 14 s)) _ _ (by omega) e0 eN (rb.tr z.1) z.2 t3.sh h3.sh hq⟩
  exact lp N 0 S _ μ1 μ2 (by omega) fu_eq fu_eq r1 h1 t2 h2 hq
end RXb
