/-! Reader: the grammar's methods -/
section RF
variable {sc : si_Sc} {T W : Nat → Int32} {B : Nat → Nat} {nt : Nat} {d : Nat} {μ : si_Mm} {Q : si_Po} {x : Int32} {k u : Nat}
theorem f_single (h : FS T W B nt μ) (hq : Q none μ) : si_W sc (d + 3) 49 0 [some (.inr (.inr (3, 0))), some (.inl x)] [] μ Q :=
  k_X3_single_0 (f_opened h (k_X3_single_7 ⟨fun _ => f_opened h (k_X3_single_36 ⟨fun _ => ⟨fun _ => ⟨fun _ => f_fault h (k_X3_single_154 hq), fun c => absurd c h.2.1⟩, fun c => absurd c h.2.1⟩, fun c => absurd rfl c⟩), fun c => absurd rfl c⟩))
theorem n160 {i : Nat} (hi : i ≤ 160) : (160 : Int32) ≤ nI i ↔ 160 ≤ i := by
  have e : (160 : Int32) = nI 160 := rfl
  rw [e, nI_le8 (by omega) (by omega)]
theorem f_product (h : FS T W B nt μ) (hq : Q none μ) : si_W sc (d + 4) 48 0 [some (.inr (.inr (3, 0))), some (.inl x), none] [] μ Q :=
  k_X3_product_0 (f_single h (k_X3_product_5 (k_X3_product_7 ⟨fun _ => hq, fun _ => f_took h (k_X3_product_20 ⟨fun _ => hq, fun c => absurd rfl c⟩)⟩)))
theorem f_sum (h : FS T W B nt μ) (hq : Q none μ) : si_W sc (d + 5) 50 0 [some (.inr (.inr (3, 0))), some (.inl x), none] [] μ Q :=
  k_X3_sum_0 (f_product h (k_X3_sum_5 (k_X3_sum_7 ⟨fun _ => hq, fun _ => ⟨fun _ => hq, fun c => absurd c h.2.1⟩⟩)))
theorem f_denied (h : FS T W B nt μ) (hq : Q none μ) : si_W sc (d + 6) 46 0 [some (.inr (.inr (3, 0))), some (.inl x)] [] μ Q :=
  k_X3_denied_0 (f_opened h (k_X3_denied_8 ⟨fun _ => f_sum h (k_X3_denied_33 (f_took h (k_X3_denied_39 ⟨fun _ => f_took h (k_X3_denied_65 ⟨fun _ => k_X3_denied_82 hq, fun c => absurd rfl c⟩), fun c => absurd rfl c⟩))), fun c => absurd rfl c⟩))
theorem f_both (h : FS T W B nt μ) (hq : Q none μ) : si_W sc (d + 7) 45 0 [some (.inr (.inr (3, 0))), some (.inl x), none] [] μ Q :=
  k_X3_both_0 (f_denied h (k_X3_both_5 (k_X3_both_7 ⟨fun _ => hq, fun _ => f_took h (k_X3_both_21 ⟨fun _ => hq, fun c => absurd rfl c⟩)⟩)))
theorem f_either (h : FS T W B nt μ) (hq : Q none μ) : si_W sc (d + 8) 47 0 [some (.inr (.inr (3, 0))), some (.inl x), none] [] μ Q :=
  k_X3_either_0 (f_both h (k_X3_either_5 (k_X3_either_7 ⟨fun _ => hq, fun _ => f_took h (k_X3_either_21 ⟨fun _ => hq, fun c => absurd rfl c⟩)⟩)))
/-- the method j reads as the parser p does; o more are open than at the top -/
def rdS (sc : si_Sc) (T W : Nat → Int32) (B : Nat → Nat) (nt : Nat) (D j : Nat) (ex : List (Option si_AV)) (o : Nat) (p : PF) : Prop := ∀ (d : Nat) (μ : si_Mm) (Q : si_Po) (k u : Nat), D ≤ d → PRE T W B nt μ k u → (∀ μ', PO B μ (p k) u μ' → Q none μ') → si_W sc d j 0 (some (.inr (.inr (3, 0))) :: some (.inl (nI o)) :: ex) [] μ Q
theorem took_PO {μ0 : si_Mm} {cs : List Int32} (hp : PO B μ0 (k, some cs) u μ) : PO B μ0 (k + 1, some cs) u (si_ms μ 3 0 2 (nI (k + 1))) := by
  obtain ⟨a1, a2, a3, a4, a5⟩ := hp
  refine ⟨?_, ?_, ?_, fun i hi => ?_, frR.tr (Nat.le_refl _) a5 frR.m3⟩
  · rw [ms_eq, if_pos ⟨rfl, rfl, rfl⟩]
  · rw [ms_eq, if_neg (by omega)]; exact a2
  · rw [ms_eq, if_neg (by omega)]; exact a3
  · rw [ms_eq, if_neg (by omega)]; exact a4 i hi
theorem took_PRE (h : PRE T W B nt μ k u) (hk : k < nt) : PRE T W B nt (si_ms μ 3 0 2 (nI (k + 1))) (k + 1) u := by
  obtain ⟨h1, h2, h3, h4, h5, h6⟩ := h
  refine ⟨?_, ?_, ?_, by omega, by omega, LDT_R (u := u) frR.m3 h6⟩
  · rw [ms_eq, if_pos ⟨rfl, rfl, rfl⟩]
  · rw [ms_eq, if_neg (by omega)]; exact h2
  · rw [ms_eq, if_neg (by omega)]; exact h3
theorem PO_0 {r : PR} {μ' : si_Mm} {μ0 : si_Mm} {k0 : Nat} {cs : List Int32} (h1 : PO B μ0 (k0, some cs) u μ) (h2 : PO B μ r (u + cs.length) μ') : PO B μ0 (match r with | (k', some ds) => (k', some (cs ++ ds)) | (k', none) => (k', none)) u μ' := by
  rcases r with ⟨k', _ | ds⟩
  · exact h1.trn h2
  · exact h1.tr h2
/-- a loop of a chain: at token k, with the codes cs behind u; the next are read by p, each behind its sign -/
theorem lt_T (h0 : ∀ k, nt ≤ k → T k = 0) {j : Nat} (h : T j ≠ 0) : j < nt := Nat.lt_of_not_le fun q => h (h0 j q)
section PRODUCT
variable {o D : Nat} {p : PF}
theorem c_product (h0 : ∀ k, nt ≤ k → T k = 0) (hpg : pg nt p) (hD : 4 ≤ D) (hp : rdS sc T W B nt D 49 [] o p) : rdS sc T W B nt (D + 1) 48 [none] o (q_chain T o_mul p) := by
  intro d μ Q k u hd hpre hq
  obtain ⟨d1, rfl⟩ : ∃ d1, d = d1 + 5 := ⟨d - 5, by omega⟩
  have lp : ∀ (n i k1 : Nat) (cs : List Int32) (μ1 : si_Mm), i + n = 160 → PO B μ (k1, some cs) u μ1 → PRE T W B nt μ1 k1 (u + cs.length) → (∀ μ', PO B μ (q_lp T o_mul p n k1 cs) u μ' → Q none μ') → si_W sc (d1 + 5) 48 7 [some (.inr (.inr (3, 0))), some (.inl (nI o)), some (.inl (nI i))] [] μ1 Q := by
    intro n
    induction n with
    | zero => exact fun i k1 cs μ1 hi P1 E1 hq => k_X3_product_7 ⟨fun _ => hq μ1 P1, fun hn => absurd ((n160 (by omega)).mpr (by omega)) hn⟩
    | succ n ih =>
      intro i k1 cs μ1 hi P1 E1 hq
      refine k_X3_product_7 ⟨fun hn => absurd ((n160 (by omega)).mp hn) (by omega), fun _ => c_took E1 (fun c => k_X3_product_20 ⟨fun _ => hq μ1 ?_, fun c2 => absurd rfl c2⟩) (fun c => k_X3_product_20 ⟨fun c2 => absurd c2 (by decide), fun _ => ?_⟩)⟩
      · unfold q_lp o_mul
        rw [if_neg c]; exact P1
      · have hop : o_mul (T k1) = some (-18) := if_pos c
        have hlt := lt_T h0 (j := k1) (by rw [c]; decide)
        have E2 := took_PRE E1 hlt
        have P2 := took_PO P1
        refine hp (d1 + 4) _ _ (k1 + 1) (u + cs.length) (by omega) E2 fun μ2 q2 => k_X3_product_28 ?_
        unfold q_lp at hq
        rw [hop] at hq
        dsimp only at hq
        rcases hr : p (k1 + 1) with ⟨k2, _ | ds⟩
        · rw [hr] at q2 hq
          have hk2 := pg_n hpg (by omega) hr
          have q3 := P2.trn q2
          refine n_add q3 fun μ3 q4 => k_X3_product_37 (k_X3_product_7 ⟨fun _ => hq μ3 q4, fun _ => f_took (PO.fs hpre.2.2.2.2.2 hk2.2 q4) (k_X3_product_20 ⟨fun _ => hq μ3 q4, fun c2 => absurd rfl c2⟩)⟩)
        · rw [hr] at q2 hq
          have hk2 := pg_s hpg (by omega) hr
          have E1' := E1.2.2.2.2.1
          have q3 := P2.tr q2
          refine c_add q3 (by rw [List.length_append]; omega) fun μ3 q4 => k_X3_product_37 ?_
          rw [nI_1]
          rw [List.append_assoc] at q4
          exact ih (i + 1) k2 _ μ3 (by omega) q4 (q4.pre hpre (by omega) (by rw [List.length_append, List.length_append, List.length_singleton]; omega)) hq
  refine k_X3_product_0 (hp (d1 + 4) μ _ k u (by omega) hpre fun μ1 q1 => k_X3_product_5 ?_)
  unfold q_chain at hq
  rcases hr : p k with ⟨k1, _ | cs⟩
  · rw [hr] at q1 hq
    have hk1 := pg_n hpg hpre.2.2.2.1 hr
    exact k_X3_product_7 ⟨fun _ => hq μ1 q1, fun _ => f_took (PO.fs hpre.2.2.2.2.2 hk1.2 q1) (k_X3_product_20 ⟨fun _ => hq μ1 q1, fun c2 => absurd rfl c2⟩)⟩
  · rw [hr] at q1 hq
    have hk1 := pg_s hpg hpre.2.2.2.1 hr
    have := hpre.2.2.2.2.1
    exact lp 160 0 k1 cs μ1 (by omega) q1 (q1.pre hpre hk1.2.1 (by omega)) hq
theorem c_both (h0 : ∀ k, nt ≤ k → T k = 0) (hpg : pg nt p) (hD : 4 ≤ D) (hp : rdS sc T W B nt D 46 [] o p) : rdS sc T W B nt (D + 1) 45 [none] o (q_chain T o_and p) := by
  intro d μ Q k u hd hpre hq
  obtain ⟨d1, rfl⟩ : ∃ d1, d = d1 + 5 := ⟨d - 5, by omega⟩
  have lp : ∀ (n i k1 : Nat) (cs : List Int32) (μ1 : si_Mm), i + n = 160 → PO B μ (k1, some cs) u μ1 → PRE T W B nt μ1 k1 (u + cs.length) → (∀ μ', PO B μ (q_lp T o_and p n k1 cs) u μ' → Q none μ') → si_W sc (d1 + 5) 45 7 [some (.inr (.inr (3, 0))), some (.inl (nI o)), some (.inl (nI i))] [] μ1 Q := by
    intro n
    induction n with
    | zero => exact fun i k1 cs μ1 hi P1 E1 hq => k_X3_both_7 ⟨fun _ => hq μ1 P1, fun hn => absurd ((n160 (by omega)).mpr (by omega)) hn⟩
    | succ n ih =>
      intro i k1 cs μ1 hi P1 E1 hq
      refine k_X3_both_7 ⟨fun hn => absurd ((n160 (by omega)).mp hn) (by omega), fun _ => c_took E1 (fun c => k_X3_both_21 ⟨fun _ => hq μ1 ?_, fun c2 => absurd rfl c2⟩) (fun c => k_X3_both_21 ⟨fun c2 => absurd c2 (by decide), fun _ => ?_⟩)⟩
      · unfold q_lp o_and
        rw [if_neg c]; exact P1
      · have hop : o_and (T k1) = some (-12) := if_pos c
        have hlt := lt_T h0 (j := k1) (by rw [c]; decide)
        have E2 := took_PRE E1 hlt
        have P2 := took_PO P1
        refine hp (d1 + 4) _ _ (k1 + 1) (u + cs.length) (by omega) E2 fun μ2 q2 => k_X3_both_29 ?_
        unfold q_lp at hq
        rw [hop] at hq
        dsimp only at hq
        rcases hr : p (k1 + 1) with ⟨k2, _ | ds⟩
        · rw [hr] at q2 hq
          have hk2 := pg_n hpg (by omega) hr
          have q3 := P2.trn q2
          refine n_add q3 fun μ3 q4 => k_X3_both_38 (k_X3_both_7 ⟨fun _ => hq μ3 q4, fun _ => f_took (PO.fs hpre.2.2.2.2.2 hk2.2 q4) (k_X3_both_21 ⟨fun _ => hq μ3 q4, fun c2 => absurd rfl c2⟩)⟩)
        · rw [hr] at q2 hq
          have hk2 := pg_s hpg (by omega) hr
          have E1' := E1.2.2.2.2.1
          have q3 := P2.tr q2
          refine c_add q3 (by rw [List.length_append]; omega) fun μ3 q4 => k_X3_both_38 ?_
          rw [nI_1]
          rw [List.append_assoc] at q4
          exact ih (i + 1) k2 _ μ3 (by omega) q4 (q4.pre hpre (by omega) (by rw [List.length_append, List.length_append, List.length_singleton]; omega)) hq
  refine k_X3_both_0 (hp (d1 + 4) μ _ k u (by omega) hpre fun μ1 q1 => k_X3_both_5 ?_)
  unfold q_chain at hq
  rcases hr : p k with ⟨k1, _ | cs⟩
  · rw [hr] at q1 hq
    have hk1 := pg_n hpg hpre.2.2.2.1 hr
    exact k_X3_both_7 ⟨fun _ => hq μ1 q1, fun _ => f_took (PO.fs hpre.2.2.2.2.2 hk1.2 q1) (k_X3_both_21 ⟨fun _ => hq μ1 q1, fun c2 => absurd rfl c2⟩)⟩
  · rw [hr] at q1 hq
    have hk1 := pg_s hpg hpre.2.2.2.1 hr
    have := hpre.2.2.2.2.1
    exact lp 160 0 k1 cs μ1 (by omega) q1 (q1.pre hpre hk1.2.1 (by omega)) hq
theorem c_either (h0 : ∀ k, nt ≤ k → T k = 0) (hpg : pg nt p) (hD : 4 ≤ D) (hp : rdS sc T W B nt D 45 [none] o p) : rdS sc T W B nt (D + 1) 47 [none] o (q_chain T o_or p) := by
  intro d μ Q k u hd hpre hq
  obtain ⟨d1, rfl⟩ : ∃ d1, d = d1 + 5 := ⟨d - 5, by omega⟩
  have lp : ∀ (n i k1 : Nat) (cs : List Int32) (μ1 : si_Mm), i + n = 160 → PO B μ (k1, some cs) u μ1 → PRE T W B nt μ1 k1 (u + cs.length) → (∀ μ', PO B μ (q_lp T o_or p n k1 cs) u μ' → Q none μ') → si_W sc (d1 + 5) 47 7 [some (.inr (.inr (3, 0))), some (.inl (nI o)), some (.inl (nI i))] [] μ1 Q := by
    intro n
    induction n with
    | zero => exact fun i k1 cs μ1 hi P1 E1 hq => k_X3_either_7 ⟨fun _ => hq μ1 P1, fun hn => absurd ((n160 (by omega)).mpr (by omega)) hn⟩
    | succ n ih =>
      intro i k1 cs μ1 hi P1 E1 hq
      refine k_X3_either_7 ⟨fun hn => absurd ((n160 (by omega)).mp hn) (by omega), fun _ => c_took E1 (fun c => k_X3_either_21 ⟨fun _ => hq μ1 ?_, fun c2 => absurd rfl c2⟩) (fun c => k_X3_either_21 ⟨fun c2 => absurd c2 (by decide), fun _ => ?_⟩)⟩
      · unfold q_lp o_or
        rw [if_neg c]; exact P1
      · have hop : o_or (T k1) = some (-11) := if_pos c
        have hlt := lt_T h0 (j := k1) (by rw [c]; decide)
        have E2 := took_PRE E1 hlt
        have P2 := took_PO P1
        refine hp (d1 + 4) _ _ (k1 + 1) (u + cs.length) (by omega) E2 fun μ2 q2 => k_X3_either_29 ?_
        unfold q_lp at hq
        rw [hop] at hq
        dsimp only at hq
        rcases hr : p (k1 + 1) with ⟨k2, _ | ds⟩
        · rw [hr] at q2 hq
          have hk2 := pg_n hpg (by omega) hr
          have q3 := P2.trn q2
          refine n_add q3 fun μ3 q4 => k_X3_either_38 (k_X3_either_7 ⟨fun _ => hq μ3 q4, fun _ => f_took (PO.fs hpre.2.2.2.2.2 hk2.2 q4) (k_X3_either_21 ⟨fun _ => hq μ3 q4, fun c2 => absurd rfl c2⟩)⟩)
        · rw [hr] at q2 hq
          have hk2 := pg_s hpg (by omega) hr
          have E1' := E1.2.2.2.2.1
          have q3 := P2.tr q2
          refine c_add q3 (by rw [List.length_append]; omega) fun μ3 q4 => k_X3_either_38 ?_
          rw [nI_1]
          rw [List.append_assoc] at q4
          exact ih (i + 1) k2 _ μ3 (by omega) q4 (q4.pre hpre (by omega) (by rw [List.length_append, List.length_append, List.length_singleton]; omega)) hq
  refine k_X3_either_0 (hp (d1 + 4) μ _ k u (by omega) hpre fun μ1 q1 => k_X3_either_5 ?_)
  unfold q_chain at hq
  rcases hr : p k with ⟨k1, _ | cs⟩
  · rw [hr] at q1 hq
    have hk1 := pg_n hpg hpre.2.2.2.1 hr
    exact k_X3_either_7 ⟨fun _ => hq μ1 q1, fun _ => f_took (PO.fs hpre.2.2.2.2.2 hk1.2 q1) (k_X3_either_21 ⟨fun _ => hq μ1 q1, fun c2 => absurd rfl c2⟩)⟩
  · rw [hr] at q1 hq
    have hk1 := pg_s hpg hpre.2.2.2.1 hr
    have := hpre.2.2.2.2.1
    exact lp 160 0 k1 cs μ1 (by omega) q1 (q1.pre hpre hk1.2.1 (by omega)) hq
theorem c_sum (h0 : ∀ k, nt ≤ k → T k = 0) (hpg : pg nt p) (hD : 4 ≤ D) (hp : rdS sc T W B nt D 48 [none] o p) : rdS sc T W B nt (D + 1) 50 [none] o (q_chain T o_add p) := by
  intro d μ Q k u hd hpre hq
  obtain ⟨d1, rfl⟩ : ∃ d1, d = d1 + 5 := ⟨d - 5, by omega⟩
  have fin : ∀ (i : Nat) (μ1 : si_Mm) (k1 : Nat), FS T W B nt μ1 → Q none μ1 → si_W sc (d1 + 5) 50 7 [some (.inr (.inr (3, 0))), some (.inl (nI o)), some (.inl (nI i))] [] μ1 Q := fun i μ1 k1 hf hq => k_X3_sum_7 ⟨fun _ => hq, fun _ => ⟨fun _ => hq, fun c => absurd c hf.2.1⟩⟩
  have lp : ∀ (n i k1 : Nat) (cs : List Int32) (μ1 : si_Mm), i + n = 160 → PO B μ (k1, some cs) u μ1 → PRE T W B nt μ1 k1 (u + cs.length) → (∀ μ', PO B μ (q_lp T o_add p n k1 cs) u μ' → Q none μ') → si_W sc (d1 + 5) 50 7 [some (.inr (.inr (3, 0))), some (.inl (nI o)), some (.inl (nI i))] [] μ1 Q := by
    intro n
    induction n with
    | zero => exact fun i k1 cs μ1 hi P1 E1 hq => k_X3_sum_7 ⟨fun _ => hq μ1 P1, fun hn => absurd ((n160 (by omega)).mpr (by omega)) hn⟩
    | succ n ih =>
      intro i k1 cs μ1 hi P1 E1 hq
      refine k_X3_sum_7 ⟨fun hn => absurd ((n160 (by omega)).mp hn) (by omega), fun _ => ⟨fun c => absurd E1.2.1 c, fun _ => c_took E1 (fun c => k_X3_sum_28 ⟨fun _ => c_took E1 (fun c3 => k_X3_sum_54 ⟨fun _ => hq μ1 ?_, fun c2 => absurd rfl c2⟩) (fun c3 => k_X3_sum_54 ⟨fun c2 => absurd c2 (by decide), fun _ => ?_⟩), fun c2 => absurd rfl c2⟩) (fun c => k_X3_sum_28 ⟨fun c2 => absurd c2 (by decide), fun _ => ?_⟩)⟩⟩
      · unfold q_lp o_add
        rw [if_neg c, if_neg c3]; exact P1
      · have hop : o_add (T k1) = some (-17) := by unfold o_add; rw [if_neg c, if_pos c3]
        have hlt := lt_T h0 (j := k1) (by rw [c3]; decide)
        have E2 := took_PRE E1 hlt
        have P2 := took_PO P1
        refine hp (d1 + 4) _ _ (k1 + 1) (u + cs.length) (by omega) E2 fun μ2 q2 => k_X3_sum_62 ?_
        unfold q_lp at hq
        rw [hop] at hq
        dsimp only at hq
        rcases hr : p (k1 + 1) with ⟨k2, _ | ds⟩
        · rw [hr] at q2 hq
          have hk2 := pg_n hpg (by omega) hr
          have q3 := P2.trn q2
          refine n_add q3 fun μ3 q4 => k_X3_sum_71 ?_
          rw [nI_1]
          exact fin (i + 1) μ3 k2 (PO.fs hpre.2.2.2.2.2 hk2.2 q4) (hq μ3 q4)
        · rw [hr] at q2 hq
          have hk2 := pg_s hpg (by omega) hr
          have E1' := E1.2.2.2.2.1
          have q3 := P2.tr q2
          refine c_add q3 (by rw [List.length_append]; omega) fun μ3 q4 => k_X3_sum_71 ?_
          rw [nI_1]
          rw [List.append_assoc] at q4
          exact ih (i + 1) k2 _ μ3 (by omega) q4 (q4.pre hpre (by omega) (by rw [List.length_append, List.length_append, List.length_singleton]; omega)) hq
      · have hop : o_add (T k1) = some (-16) := by unfold o_add; rw [if_pos c]
        have hlt := lt_T h0 (j := k1) (by rw [c]; decide)
        have E2 := took_PRE E1 hlt
        have P2 := took_PO P1
        refine hp (d1 + 4) _ _ (k1 + 1) (u + cs.length) (by omega) E2 fun μ2 q2 => k_X3_sum_36 ?_
        unfold q_lp at hq
        rw [hop] at hq
        dsimp only at hq
        rcases hr : p (k1 + 1) with ⟨k2, _ | ds⟩
        · rw [hr] at q2 hq
          have hk2 := pg_n hpg (by omega) hr
          have q3 := P2.trn q2
          refine n_add q3 fun μ3 q4 => k_X3_sum_45 (k_X3_sum_71 ?_)
          rw [nI_1]
          exact fin (i + 1) μ3 k2 (PO.fs hpre.2.2.2.2.2 hk2.2 q4) (hq μ3 q4)
        · rw [hr] at q2 hq
          have hk2 := pg_s hpg (by omega) hr
          have E1' := E1.2.2.2.2.1
          have q3 := P2.tr q2
          refine c_add q3 (by rw [List.length_append]; omega) fun μ3 q4 => k_X3_sum_45 (k_X3_sum_71 ?_)
          rw [nI_1]
          rw [List.append_assoc] at q4
          exact ih (i + 1) k2 _ μ3 (by omega) q4 (q4.pre hpre (by omega) (by rw [List.length_append, List.length_append, List.length_singleton]; omega)) hq
  refine k_X3_sum_0 (hp (d1 + 4) μ _ k u (by omega) hpre fun μ1 q1 => k_X3_sum_5 ?_)
  unfold q_chain at hq
  rcases hr : p k with ⟨k1, _ | cs⟩
  · rw [hr] at q1 hq
    have hk1 := pg_n hpg hpre.2.2.2.1 hr
    exact fin 0 μ1 k1 (PO.fs hpre.2.2.2.2.2 hk1.2 q1) (hq μ1 q1)
  · rw [hr] at q1 hq
    have hk1 := pg_s hpg hpre.2.2.2.1 hr
    have := hpre.2.2.2.2.1
    exact lp 160 0 k1 cs μ1 (by omega) q1 (q1.pre hpre hk1.2.1 (by omega)) hq
end PRODUCT
end RF
