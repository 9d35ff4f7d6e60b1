/-! the list's first, on both sides; the reference's year -/
theorem bt_s : ∀ m, m < 256 → ∀ p, p < 8 → ((((nI m >>> (nI p &&& 31)) &&& 1) = 0) ↔ m.testBit p = false) := by decide +kernel
theorem bt_o : ∀ m, m < 256 → ∀ p, p < 8 → nI m ||| (1 <<< (nI p &&& 31)) = nI (m ||| 2 ^ p) ∧ m ||| 2 ^ p < 256 ∧ (m.testBit p = false → m < m ||| 2 ^ p) := by decide +kernel
theorem tb_or {m p q : Nat} : (m ||| 2 ^ p).testBit q = (m.testBit q || decide (p = q)) := by rw [Nat.testBit_or, Nat.testBit_two_pow]
def fbo (S : gS) (i : Nat) (o : Option Nat) : Prop := match o with
  | none => True
  | some q => S 21 q < S 21 i
noncomputable def fb (S : gS) (m : Nat) : Nat → Nat → Option Nat → Option Nat
  | 0, _, o => o
  | n + 1, i, o => fb S m n (i + 1) (ic (S 18 i = -1 ∧ m.testBit i = false ∧ fbo S i o) (some i) o)
theorem ah_tri {S : gS} {p q : Nat} (h : p ≠ q) : ahead S p q ∨ ahead S q p := by
  unfold ahead
  rw [i_lt, i_lt, i_eq, i_eq (x := S 21 q)]
  omega
theorem ah_asy {S : gS} {p q : Nat} (h : ahead S p q) : ¬ ahead S q p := by
  unfold ahead at *
  rw [i_lt, i_eq] at *
  omega
theorem ah_tr {S : gS} {p q r : Nat} (h : ahead S p q) (g : ahead S q r) : ahead S p r := by
  unfold ahead at *
  rw [i_lt, i_eq] at *
  omega
theorem ah_irr {S : gS} {p : Nat} : ¬ ahead S p p := by
  unfold ahead
  rw [i_lt]
  omega
/-- the best of those below n that are C -/
def best (S : gS) (C : Nat → Prop) (n : Nat) (o : Option Nat) : Prop := match o with
  | none => ∀ i, i < n → ¬ C i
  | some q => q < n ∧ C q ∧ ∀ i, i < n → C i → i ≠ q → ahead S q i
theorem best_un {S : gS} {C : Nat → Prop} {n : Nat} {o o' : Option Nat} (h : best S C n o) (g : best S C n o') : o = o' := by
  cases o with
  | none =>
    cases o' with
    | none => rfl
    | some q => exact absurd g.2.1 (h q g.1)
  | some p =>
    cases o' with
    | none => exact absurd h.2.1 (g p h.1)
    | some q =>
      by_cases e : p = q
      · rw [e]
      · exact absurd (g.2.2 p h.1 h.2.1 e) (ah_asy (h.2.2 q g.1 g.2.1 (fun a => e a.symm)))
theorem best_cg {S : gS} {C C' : Nat → Prop} {n : Nat} {o : Option Nat} (h : best S C n o) (hc : ∀ i, i < n → (C i ↔ C' i)) : best S C' n o := by
  cases o with
  | none => exact fun i hi c => h i hi ((hc i hi).mpr c)
  | some q => exact ⟨h.1, (hc q h.1).mp h.2.1, fun i hi c => h.2.2 i hi ((hc i hi).mpr c)⟩
theorem fb_best {S : gS} {m : Nat} : ∀ (n i : Nat) (o : Option Nat), best S (fun j => S 18 j = -1 ∧ m.testBit j = false) i o → best S (fun j => S 18 j = -1 ∧ m.testBit j = false) (i + n) (fb S m n i o)
  | 0, _, _, h => h
  | n + 1, i, o, h => by
    rw [show i + (n + 1) = (i + 1) + n by omega]
    refine fb_best n (i + 1) _ ?_
    by_cases c : S 18 i = -1 ∧ m.testBit i = false ∧ fbo S i o
    · rw [ic_t c]
      refine ⟨by omega, ⟨c.1, c.2.1⟩, fun j hj cj hne => ?_⟩
      cases o with
      | none => exact absurd cj (h j (by omega))
      | some q =>
        have c3 : S 21 q < S 21 i := c.2.2
        have h1 : ahead S i q := Or.inl c3
        by_cases e : j = q
        · rw [e]; exact h1
        · exact ah_tr h1 (h.2.2 j (by omega) cj e)
    · rw [ic_f c]
      cases o with
      | none =>
        intro j hj cj
        by_cases e : j = i
        · subst e; exact c ⟨cj.1, cj.2, trivial⟩
        · exact h j (by omega) cj
      | some q =>
        refine ⟨by have := h.1; omega, h.2.1, fun j hj cj hne => ?_⟩
        by_cases e : j = i
        · subst e
          have h3 : ¬ S 21 q < S 21 j := fun a => c ⟨cj.1, cj.2, a⟩
          have := h.1
          unfold ahead
          rw [i_lt, i_eq]
          rw [i_lt] at h3
          omega
        · exact h.2.2 j (by omega) cj hne
theorem yf_best {S : gS} {s : Nat} : ∀ (n i : Nat) (o : Option Nat), best S (fun j => S 18 j = -1 ∧ (S 15 s = 0 ∨ bearsP S j)) i o → best S (fun j => S 18 j = -1 ∧ (S 15 s = 0 ∨ bearsP S j)) (i + n) (y_first S s n i o)
  | 0, _, _, h => h
  | n + 1, i, o, h => by
    rw [show i + (n + 1) = (i + 1) + n by omega, y_first]
    refine yf_best n (i + 1) _ ?_
    by_cases c : y_ok S s i o
    · rw [y_pk_t c]
      refine ⟨by omega, ⟨c.1, c.2.1⟩, fun j hj cj hne => ?_⟩
      cases o with
      | none => exact absurd cj (h j (by omega))
      | some q =>
        have h1 : ahead S i q := c.2.2
        by_cases e : j = q
        · rw [e]; exact h1
        · exact ah_tr h1 (h.2.2 j (by omega) cj e)
    · rw [y_pk_f c]
      cases o with
      | none =>
        intro j hj cj
        by_cases e : j = i
        · subst e; exact c ⟨cj.1, cj.2, trivial⟩
        · exact h j (by omega) cj
      | some q =>
        refine ⟨by have := h.1; omega, h.2.1, fun j hj cj hne => ?_⟩
        by_cases e : j = i
        · subst e
          rcases ah_tri (S := S) hne with a | a
          · exact absurd ⟨cj.1, cj.2, a⟩ c
          · exact a
        · exact h.2.2 j (by omega) cj hne
theorem fb_b {S : gS} {m : Nat} : best S (fun j => S 18 j = -1 ∧ m.testBit j = false) (gP S) (fb S m (gP S) 0 none) := by
  have := fb_best (S := S) (m := m) (gP S) 0 none (fun i hi => absurd hi (Nat.not_lt_zero i))
  rw [Nat.zero_add] at this; exact this
theorem yf_b {S : gS} {s : Nat} : best S (fun j => S 18 j = -1 ∧ (S 15 s = 0 ∨ bearsP S j)) (gP S) (y_first S s (gP S) 0 none) := by
  have := yf_best (S := S) (s := s) (gP S) 0 none (fun i hi => absurd hi (Nat.not_lt_zero i))
  rw [Nat.zero_add] at this; exact this
section RZ
variable {sc : si_Sc} {d : Nat} {μ : si_Mm} {Q : si_Po} {n : Nat} {V : VT} {S : gS}
theorem isP_nI {p : Nat} (h8 : gP S ≤ 8) (hp : p < gP S) : isP S (nI p) := ⟨nI_pos' (by omega), (nI_lt8 (by omega) (by omega)).mpr hp⟩
theorem r_firstBut {m : Nat} (hm : m < 256) (hR : RV μ S) (hw : gw S n) (hq : Q (some (.inl (oI (fb S m (gP S) 0 none)))) μ) : si_W sc (d + 3) 195 0 [some (.inr (.inr (7, 0))), some (.inl (nI m)), none, none] [] μ Q := by
  have h8 := hw.1
  have lp : ∀ (k i : Nat) (o : Option Nat), i + k = gP S → (∀ q, o = some q → q < gP S) → Q (some (.inl (oI (fb S m k i o)))) μ → si_W sc (d + 3) 195 4 [some (.inr (.inr (7, 0))), some (.inl (nI m)), some (.inl (oI o)), some (.inl (nI i))] [] μ Q := by
    intro k
    induction k with
    | zero =>
      intro i o hi ho hq
      refine k_X7_firstBut_4 ⟨fun _ => hq, fun hn => absurd ?_ hn⟩
      rw [hR.P hw, nI_le8 (by omega) (by omega)]; omega
    | succ k ih =>
      intro i o hi ho hq
      rw [fb] at hq
      have ci : (nI i).toNatClampNeg = i := nI_c (by omega)
      have no : ¬ (S 18 i = -1 ∧ m.testBit i = false ∧ fbo S i o) → si_W sc (d + 3) 195 4 [some (.inr (.inr (7, 0))), some (.inl (nI m)), some (.inl (oI o)), some (.inl (nI i + 1))] [] μ Q := fun c => by
        rw [ic_f c] at hq
        rw [nI_1]; exact ih (i + 1) o (by omega) ho hq
      have yes : (S 18 i = -1 ∧ m.testBit i = false ∧ fbo S i o) → si_W sc (d + 3) 195 4 [some (.inr (.inr (7, 0))), some (.inl (nI m)), some (.inl (nI i)), some (.inl (nI i + 1))] [] μ Q := fun c => by
        rw [ic_t c] at hq
        rw [nI_1]; exact ih (i + 1) (some i) (by omega) (fun q e => by cases e; omega) hq
      refine k_X7_firstBut_4 ⟨fun hn => ?_, fun _ => r_waits hR hw (k_X7_firstBut_17 ⟨fun c => no fun a => bc_0 c ⟨isP_nI h8 (by omega), by rw [ci]; exact a.1⟩, fun c => ?_⟩)⟩
      · rw [hR.P hw, nI_le8 (by omega) (by omega)] at hn; omega
      · have c' := (bc_n c).2
        rw [ci] at c'
        rw [bt_s m hm i (by omega)]
        refine ⟨fun c2 => no fun a => c2 a.2.1, fun c2 => ?_⟩
        match o, ho, no, yes with
        | none, ho, no, yes => exact ⟨fun _ => yes ⟨c', c2, trivial⟩, fun c => absurd rfl c⟩
        | some q, ho, no, yes =>
          have hqP := ho q rfl
          refine ⟨fun c => absurd c (nI_neg1 (by omega)), fun _ => k_X7_at_0 (k_X7_firstBut_42 ?_)⟩
          have a1 : (nI (6 + 4 * i + 3)).toNatClampNeg = 6 + 4 * i + 3 := nI_c (by omega)
          have a2 : (nI (6 + 4 * q + 3)).toNatClampNeg = 6 + 4 * q + 3 := nI_c (by omega)
          rw [at_3, a1, (hR.2.2.2.2.2.2 i (by omega)).2.2.2.1]
          refine ⟨vp_in_nI (by omega) (by omega), k_X7_at_0 (k_X7_firstBut_52 ?_)⟩
          have eo : oI (some q) = nI q := rfl
          rw [eo, at_3, a2, (hR.2.2.2.2.2.2 q hqP).2.2.2.1]
          exact ⟨vp_in_nI (by omega) (by omega), fun c3 => no fun a => i_nlt.mpr c3 a.2.2, fun c3 => yes ⟨c', c2, i_nle.mp c3⟩⟩
  exact k_X7_firstBut_0 (lp (gP S) 0 none (by omega) (fun q e => by cases e) hq)
set_option maxHeartbeats 1000000 in
theorem r_gives {s : Nat} (hR : RV μ S) (hw : gw S n) (hr : gr S) (hs : s < 6) (hn : y_first S s (gP S) 0 none = none → Q none μ) (hy : ∀ p, p < gP S → y_first S s (gP S) 0 none = some p → Q none (pc3 μ p (nI s))) : si_W sc (d + 4) 199 0 [some (.inr (.inr (7, 0))), some (.inl (nI s)), none, none] [] μ Q := by
  have h8 := hw.1
  have cs : (nI s).toNatClampNeg = s := nI_c (by omega)
  have g15 := gr15 hr hs
  have give : ∀ (m p : Nat), p < gP S → y_first S s (gP S) 0 none = some p → ((nI p = -1 → si_W sc (d + 4) 199 57 [some (.inr (.inr (7, 0))), some (.inl (nI s)), some (.inl (nI m)), some (.inl (nI p))] [] μ Q) ∧ (¬ nI p = -1 → si_W sc (d + 3) 187 0 [some (.inr (.inr (7, 0))), some (.inl (nI p)), some (.inl (nI s))] [] μ (fun rv μq => si_W sc (d + 4) 199 57 [some (.inr (.inr (7, 0))), some (.inl (nI s)), some (.inl (nI m)), some (.inl (nI p))] (si_rt rv []) μq Q))) := fun m p hp e => ⟨fun c => absurd c (nI_neg1 (by omega)), fun _ => r_puts (by omega) (k_X7_gives_57 (hy p hp e))⟩
  -- at the loop's head: those in m wait, and none of them bears the strip
  have lp : ∀ (fu m : Nat), m < 256 → 256 ≤ fu + m → (∀ j, j < gP S → m.testBit j = true → ¬ (S 15 s = 0 ∨ bearsP S j)) → si_W sc (d + 4) 199 8 [some (.inr (.inr (7, 0))), some (.inl (nI s)), some (.inl (nI m)), some (.inl (oI (fb S m (gP S) 0 none)))] [] μ Q := by
    intro fu
    induction fu with
    | zero => intro m hm hf; omega
    | succ fu ih =>
      intro m hm hf hj
      have hb := fb_b (S := S) (m := m)
      cases hfo : fb S m (gP S) 0 none with
      | none =>
        rw [hfo] at hb
        have e : y_first S s (gP S) 0 none = none := by
          refine best_un yf_b (o' := none) fun i hi c => hb i hi ⟨c.1, ?_⟩
          cases ht : m.testBit i with
          | false => rfl
          | true => exact absurd c.2 (hj i hi ht)
        exact k_X7_gives_8 ⟨fun _ => ⟨fun _ => k_X7_gives_57 (hn e), fun c => absurd rfl c⟩, fun c => absurd rfl c⟩
      | some p =>
        rw [hfo] at hb
        obtain ⟨hp, hc, hbest⟩ := hb
        have ne : ¬ nI p = -1 := nI_neg1 (by omega)
        -- p takes the strip, if it may
        have fit : (S 15 s = 0 ∨ bearsP S p) → y_first S s (gP S) 0 none = some p := fun hf => best_un yf_b (o' := some p) ⟨hp, ⟨hc.1, hf⟩, fun i hi ci hne => hbest i hi ⟨ci.1, by
          cases ht : m.testBit i with
          | false => rfl
          | true => exact absurd ci.2 (hj i hi ht)⟩ hne⟩
        refine k_X7_gives_8 ⟨fun c => absurd c ne, fun _ => ⟨vp_in_nI hs (by omega), ?_⟩⟩
        rw [cs, (hR.2.2.2.2.2.1 s hs).2]
        refine ⟨fun c1 => give m p hp (fit (Or.inl ?_)), fun c1 => r_bears hR hp h8 (k_X7_gives_28 ⟨fun c2 => give m p hp (fit (Or.inr (bc_n c2))), fun c2 => ?_⟩)⟩
        · rw [i_eq, i_0]
          have : ¬ (S 15 s).toInt = 1 := fun e => c1 (by rw [i_eq, i_1]; exact e)
          omega
        · obtain ⟨o1, o2, o3⟩ := bt_o m hm p (by omega)
          have eo : oI (some p) = nI p := rfl
          rw [eo, o1]
          refine r_firstBut o2 hR hw (k_X7_gives_42 (ih _ o2 (by have := o3 hc.2; omega) fun j hjP ht => ?_))
          rw [tb_or, Bool.or_eq_true] at ht
          rcases ht with ht | ht
          · exact hj j hjP ht
          · have e : p = j := of_decide_eq_true ht
            subst e
            intro a
            rcases a with a | a
            · rw [c1] at a; exact absurd a (by decide)
            · exact bc_0 c2 a
  refine k_X7_gives_0 (r_firstBut (m := 0) (by omega) hR hw (k_X7_gives_7 (lp 256 0 (by omega) (by omega) fun j _ ht => ?_)))
  rw [Nat.zero_testBit] at ht; cases ht
theorem r_hand {s : Nat} (h : RG μ n V S) (hs : s < 6) (hwho : who S s = none) (hq : ∀ μ', fx Jg Ag μ μ' → RG μ' n V (y_hand S s) → Q none μ') : si_W sc (d + 4) 199 0 [some (.inr (.inr (7, 0))), some (.inl (nI s)), none, none] [] μ Q := by
  have hG := h
  obtain ⟨hR, hw, hr, hn6, hT, hV⟩ := h
  have gh := gw_hand (n := n) hs hw
  have rh := gr_hand hw hs hr
  unfold y_hand at hq gh rh
  rw [hwho] at hq gh rh
  dsimp only at hq gh rh
  refine r_gives hR hw hr hs (fun e => ?_) (fun p hp e => ?_)
  · rw [e] at hq; exact hq μ fx.rf hG
  · rw [e] at hq gh rh
    dsimp only at hq gh rh
    refine hq _ fx.pc ⟨hR.pu (S' := y_in S p s) ?_ (fun _ => ⟨?_, ?_⟩) (fun a k n1 n2 n3 => ?_), gh, rh, hn6, hT.g fx.pc, hV⟩
    · unfold y_in; rw [upS_ne (by decide), upS_ne (by decide), upS_eq]
    · unfold y_in; rw [upS_ne (by decide), upS_eq]
    · unfold y_in; rw [upS_eq]
    · unfold y_in upS; rw [if_neg n3, if_neg n2, if_neg n1]
theorem RG.y (h : RG μ n V S) : RG (si_ms μ 7 0 7 (μ.1 7 0 7 + 1)) n V (upS S 2 2 (S 2 2 + 1)) := by
  obtain ⟨hR, hw, hr, hn6, hT, hV⟩ := h
  rw [hR.1]
  refine ⟨hR.f (by omega), ?_, ?_, hn6, hT.of (si_ms_ne _ _ _ (by simp)) (si_ms_ne _ _ _ (by simp)), hV⟩
  · exact gw_of (by unfold upS; rw [if_neg (by decide)]) (by unfold upS; rw [if_neg (by decide)]) (fun p _ => Or.inl (by rw [upS_ne (by decide)])) hw
  · refine gr_up hr ?_
    have := fb_rng0 (S 2 2 + 1)
    rw [hi_2.1, hi_2.2.1]; omega
set_option maxHeartbeats 1000000 in
/-- A YEAR of the reference -/
theorem r_lives (h : RG μ n V S) (hq : ∀ μ', fx Jg Ag μ μ' → RG μ' n V (y_year V S) → Q none μ') : si_W sc (d + 45) 200 0 [some (.inr (.inr (7, 0))), none] [] μ Q := by
  have p1 : ∀ (m k : Nat) (S1 : gS) (μ1 : si_Mm), k + m = 6 → fx Jg Ag μ μ1 → RG μ1 n V S1 → (∀ μ', fx Jg Ag μ μ' → RG μ' n V (y_l (y_grow V) m k S1) → si_W sc (d + 45) 200 21 [some (.inr (.inr (7, 0))), some (.inl 0)] [] μ' Q) → si_W sc (d + 45) 200 2 [some (.inr (.inr (7, 0))), some (.inl (nI k))] [] μ1 Q := by
    intro m
    induction m with
    | zero => exact fun k S1 μ1 hk f1 h1 hq => k_X7_lives_2 ⟨fun _ => hq μ1 f1 h1, fun hn => absurd ((n6 (by omega)).mpr (by omega)) hn⟩
    | succ m ih =>
      intro k S1 μ1 hk f1 h1 hq
      refine k_X7_lives_2 ⟨fun hn => absurd ((n6 (by omega)).mp hn) (by omega), fun _ => r_tends h1 (by omega) fun μ2 f2 h2 => k_X7_lives_13 ?_⟩
      rw [nI_1]
      exact ih (k + 1) _ μ2 (by omega) (f1.tr f2) h2 hq
  have p2 : ∀ (P m k : Nat) (S1 : gS) (μ1 : si_Mm), k + m = P → P = gP S1 → fx Jg Ag μ μ1 → RG μ1 n V S1 → (∀ μ', fx Jg Ag μ μ' → RG μ' n V (y_l (y_w V) m k S1) → si_W sc (d + 45) 200 50 [some (.inr (.inr (7, 0))), some (.inl 0)] [] μ' Q) → si_W sc (d + 45) 200 21 [some (.inr (.inr (7, 0))), some (.inl (nI k))] [] μ1 Q := by
    intro P m
    induction m with
    | zero =>
      intro k S1 μ1 hk hP f1 h1 hq
      have h8 := h1.2.1.1
      refine k_X7_lives_21 ⟨fun _ => hq μ1 f1 h1, fun hn => absurd ?_ hn⟩
      rw [h1.1.P h1.2.1, nI_le8 (by omega) (by omega)]; omega
    | succ m ih =>
      intro k S1 μ1 hk hP f1 h1 hq
      have h8 := h1.2.1.1
      have ck : (nI k).toNatClampNeg = k := nI_c (by omega)
      refine k_X7_lives_21 ⟨fun hn => ?_, fun _ => r_hasOne h1.1 h1.2.1 (k_X7_lives_34 ⟨fun c => k_X7_lives_42 ?_, fun c => ?_⟩)⟩
      · rw [h1.1.P h1.2.1, nI_le8 (by omega) (by omega)] at hn; omega
      · have c' : ¬ 0 ≤ S1 18 k := fun a => bc_0 c ⟨isP_nI h8 (by omega), by rw [ck]; exact a⟩
        rw [nI_1]
        have e : y_w V S1 k = S1 := by unfold y_w; rw [if_neg c']
        refine ih (k + 1) S1 μ1 (by omega) hP f1 h1 fun μ' f' h' => hq μ' f' ?_
        show RG μ' n V (y_l (y_w V) m (k + 1) (y_w V S1 k))
        rw [e]; exact h'
      · have c' := (bc_n c).2
        rw [ck] at c'
        refine r_judges h1 (by omega) c' fun μ2 f2 h2 => k_X7_lives_42 ?_
        rw [nI_1]
        have e : y_w V S1 k = y_warn V S1 k (stO S1 k) := by unfold y_w; rw [if_pos c']
        rw [← e] at h2
        exact ih (k + 1) _ μ2 (by omega) (by rw [gP_w]; exact hP) (f1.tr f2) h2 hq
  have p3 : ∀ (P m k : Nat) (S1 : gS) (μ1 : si_Mm), k + m = P → P = gP S1 → fx Jg Ag μ μ1 → RG μ1 n V S1 → (∀ μ', fx Jg Ag μ μ' → RG μ' n V (y_l y_wait m k S1) → si_W sc (d + 45) 200 103 [some (.inr (.inr (7, 0))), some (.inl 0)] [] μ' Q) → si_W sc (d + 45) 200 50 [some (.inr (.inr (7, 0))), some (.inl (nI k))] [] μ1 Q := by
    intro P m
    induction m with
    | zero =>
      intro k S1 μ1 hk hP f1 h1 hq
      have h8 := h1.2.1.1
      refine k_X7_lives_50 ⟨fun _ => hq μ1 f1 h1, fun hn => absurd ?_ hn⟩
      rw [h1.1.P h1.2.1, nI_le8 (by omega) (by omega)]; omega
    | succ m ih =>
      intro k S1 μ1 hk hP f1 h1 hq
      have h8 := h1.2.1.1
      have ck : (nI k).toNatClampNeg = k := nI_c (by omega)
      refine k_X7_lives_50 ⟨fun hn => ?_, fun _ => r_waits h1.1 h1.2.1 (k_X7_lives_63 ⟨fun c => ?_, fun c => k_X7_at_0 (k_X7_lives_75 (k_X7_at_0 (k_X7_lives_84 ?_)))⟩)⟩
      · rw [h1.1.P h1.2.1, nI_le8 (by omega) (by omega)] at hn; omega
      · have c' : ¬ S1 18 k = -1 := fun a => bc_0 c ⟨isP_nI h8 (by omega), by rw [ck]; exact a⟩
        rw [nI_1]
        have e : y_wait S1 k = S1 := by unfold y_wait; rw [if_neg c']
        refine ih (k + 1) S1 μ1 (by omega) hP f1 h1 fun μ' f' h' => hq μ' f' ?_
        show RG μ' n V (y_l y_wait m (k + 1) (y_wait S1 k))
        rw [e]; exact h'
      · have c' := (bc_n c).2
        rw [ck] at c'
        have a1 : (nI (6 + 4 * k + 3)).toNatClampNeg = 6 + 4 * k + 3 := nI_c (by omega)
        rw [at_3, a1, (h1.1.2.2.2.2.2.2 k (by omega)).2.2.2.1]
        refine ⟨vp_in_nI (by omega) (by omega), r_within (k_X7_lives_94 ⟨vp_in_nI (by omega) (by omega), ?_⟩)⟩
        rw [a1, nI_1]
        have g21 := gr21 h1.2.2.1 (show k < 8 by omega)
        have ev : (if S1 21 k + 1 < 0 then 0 else if 999 < S1 21 k + 1 then 999 else S1 21 k + 1) = mn 999 (S1 21 k + 1) := by
          rw [i_eq, within_i i_0 i_999, mn_i, i_999, i_add (by rw [i_1]; omega) (by rw [i_1]; omega), i_1]
          repeat' split
          all_goals omega
        rw [ev]
        have e : y_wait S1 k = upS S1 21 k (mn 999 (S1 21 k + 1)) := by unfold y_wait; rw [if_pos c']
        have f2 := f1.tr (fx.c (μ := μ1) (k := 6 + 4 * k + 3) (v := mn 999 (S1 21 k + 1)))
        have h2 : RG (si_ms μ1 35 0 (6 + 4 * k + 3) (mn 999 (S1 21 k + 1))) n V (y_wait S1 k) := by
          refine ⟨?_, gw_wait h1.2.1, gr_wait (by omega) h1.2.2.1, h1.2.2.2.1, h1.2.2.2.2.1.g fx.c, h1.2.2.2.2.2⟩
          rw [e]; exact h1.1.pe (by omega)
        exact ih (k + 1) _ _ (by omega) (by rw [gP_wait]; exact hP) f2 h2 hq
  have p4 : ∀ (m k : Nat) (S1 : gS) (μ1 : si_Mm), k + m = 6 → fx Jg Ag μ μ1 → RG μ1 n V S1 → (∀ μ', fx Jg Ag μ μ' → RG μ' n V (y_l y_hand m k S1) → Q none (si_ms μ' 7 0 7 (μ'.1 7 0 7 + 1))) → si_W sc (d + 45) 200 103 [some (.inr (.inr (7, 0))), some (.inl (nI k))] [] μ1 Q := by
    intro m
    induction m with
    | zero => exact fun k S1 μ1 hk f1 h1 hq => k_X7_lives_103 ⟨fun _ => hq μ1 f1 h1, fun hn => absurd ((n6 (by omega)).mpr (by omega)) hn⟩
    | succ m ih =>
      intro k S1 μ1 hk f1 h1 hq
      refine k_X7_lives_103 ⟨fun hn => absurd ((n6 (by omega)).mp hn) (by omega), fun _ => r_whose h1.1 h1.2.1 (k_X7_lives_114 ⟨fun c => k_X7_lives_123 ?_, fun c => ?_⟩)⟩
      · rw [nI_1]
        have e : y_hand S1 k = S1 := by
          unfold y_hand
          cases hwo : who S1 k with
          | some p => rfl
          | none => exact absurd (who_n hwo) c
        refine ih (k + 1) S1 μ1 (by omega) f1 h1 fun μ' f' h' => hq μ' f' ?_
        show RG μ' n V (y_l y_hand m (k + 1) (y_hand S1 k))
        rw [e]; exact h'
      · have hwho : who S1 k = none := by
          cases hwo : who S1 k with
          | none => rfl
          | some p => have h3 := who_18 hwo; have := h1.2.1.1; rw [h3.2.2] at c; exact absurd c (nI_neg1 (by omega))
        refine r_hand h1 (by omega) hwho fun μ2 f2 h2 => k_X7_lives_123 ?_
        rw [nI_1]
        exact ih (k + 1) _ μ2 (by omega) (f1.tr f2) h2 hq
  refine k_X7_lives_0 (p1 6 0 S μ (by omega) fx.rf h fun μ1 f1 h1 => ?_)
  have P1 : gP (y_l (y_grow V) 6 0 S) = gP S := gP_l (fun S k => gP_grow) 6 0 S
  refine p2 (gP S) (gP S) 0 _ μ1 (by omega) P1.symm f1 h1 fun μ2 f2 h2 => ?_
  have P2 : gP (y_l (y_w V) (gP S) 0 (y_l (y_grow V) 6 0 S)) = gP S := (gP_l (fun S k => gP_w) _ 0 _).trans P1
  refine p3 (gP S) (gP S) 0 _ μ2 (by omega) P2.symm f2 h2 fun μ3 f3 h3 => ?_
  refine p4 6 0 _ μ3 (by omega) f3 h3 fun μ4 f4 h4 => hq _ (f4.tr ?_) h4.y
  exact fun a i j e1 _ => by rw [ms_eq, if_neg (fun q => e1 ⟨q.1, q.2.1, Jg_i.mpr (by omega)⟩)]
end RZ
