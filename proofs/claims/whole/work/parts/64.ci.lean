/-! the class's whole state, and change -/
noncomputable def ic {α : Type} (p : Prop) (a b : α) : α := @ite α p (Classical.propDecidable p) a b
theorem ic_t {α : Type} {p : Prop} {a b : α} (h : p) : ic p a b = a := if_pos h
theorem ic_f {α : Type} {p : Prop} {a b : α} (h : ¬ p) : ic p a b = b := if_neg h
/-- the reference's own tags -/
def rT (a : Nat) : Bool := Nat.beq a 7 || Nat.ble 29 a
def cf (μ μ' : si_Mm) : Prop := (∀ a i, rT a = true → μ'.1 a i = μ.1 a i) ∧ μ'.2 = μ.2
def rf (μ μ' : si_Mm) : Prop := ∀ a i, rT a = false → μ'.1 a i = μ.1 a i
theorem cf.rf {μ : si_Mm} : cf μ μ := ⟨fun _ _ _ => rfl, rfl⟩
theorem cf.tr {μ1 μ2 μ3 : si_Mm} (h : cf μ1 μ2) (g : cf μ2 μ3) : cf μ1 μ3 := ⟨fun a i e => (g.1 a i e).trans (h.1 a i e), g.2.trans h.2⟩
theorem rf.refl {μ : si_Mm} : rf μ μ := fun _ _ _ => rfl
theorem rf.tr {μ1 μ2 μ3 : si_Mm} (h : rf μ1 μ2) (g : rf μ2 μ3) : rf μ1 μ3 := fun a i e => (g a i e).trans (h a i e)
theorem rT_or {a : Nat} (h : rT a = true) : a = 7 ∨ 29 ≤ a := by
  unfold rT at h
  rw [Bool.or_eq_true, Nat.beq_eq, Nat.ble_eq] at h
  exact h
theorem rT_gt {a : Nat} (h : rT a = true) : ¬ gt a = true := by
  intro g
  unfold gt at g
  rw [Bool.or_eq_true, Bool.and_eq_true, Nat.beq_eq, Nat.ble_eq, Nat.ble_eq] at g
  have := rT_or h
  omega
theorem rT_sx {a i : Nat} (h : rT a = true) : sxa a i = false := by
  have h1 := rT_or h
  have h2 := rT_gt h
  cases hs : sxa a i with
  | false => rfl
  | true =>
    exfalso
    unfold sxa at hs
    rw [Bool.or_eq_true, Bool.or_eq_true, Bool.or_eq_true, Bool.and_eq_true, Nat.beq_eq, Nat.beq_eq, Nat.beq_eq] at hs
    rcases hs with ((hs | hs) | hs) | hs
    · omega
    · omega
    · omega
    · exact h2 hs.1
theorem sx.cf {μ μ' : si_Mm} (h : sx μ μ') : cf μ μ' := ⟨fun a i e => h.1 a i (rT_sx e), h.2.2⟩
theorem mr.cf {g : Nat} {μ μ' : si_Mm} {S : gS} (h : mr g μ μ' S) : cf μ μ' := ⟨fun a i e => h.2.1 a i (fun q => rT_gt e q.1) (by have := rT_or e; omega) (by have := rT_or e; omega), h.2.2⟩
theorem fr4.cf {μ μ' : si_Mm} (h : fr4 μ μ') : cf μ μ' := ⟨fun a i e => h.1 a i (by have := rT_or e; omega) (by have := rT_or e; omega) (by have := rT_or e; omega), h.2⟩
/-- of the book: how many texts, codes, parts -/
def bkx (μ : si_Mm) (n : Nat) (e : Nat → Nat) : Prop := 1 ≤ n ∧ μ.1 1 0 5 = nI n ∧ μ.1 1 0 3 = nI (e (3 * n)) ∧ μ.1 1 0 4 = nI (3 * n) ∧ e (3 * n) ≤ 160 * n
def tp (μ : si_Mm) (z : Nat) (f : Nat → Int32) : Prop := z ≤ 160 ∧ μ.1 5 0 1 = nI z ∧ ∀ i, i < z → μ.1 25 0 i = f i
def yr (S : gS) : Prop := 0 ≤ (S 2 2).toInt ∧ (S 2 2).toInt ≤ 999
def kp (μ : si_Mm) (n : Nat) (K : Option gS) : Prop := match K with
  | none => μ.1 6 0 8 = 0
  | some S2 => μ.1 6 0 8 = 1 ∧ vw μ 2 = S2 ∧ gw S2 n ∧ yr S2
def CI (μ : si_Mm) (n : Nat) (V : Nat → Nat → (Nat → Int32) → Int32) (S : gS) (K : Option gS) (R : shT) (z : Nat) (f : Nat → Int32) : Prop := ∃ e, cg μ n e S ∧ V = y_V (μ.1 10 0) e ∧ bkx μ n e ∧ tp μ z f ∧ CR μ R ∧ kp μ n K ∧ yr S
theorem bkx_of {μ μ' : si_Mm} {n : Nat} {e : Nat → Nat} (h1 : μ'.1 1 0 = μ.1 1 0) (h : bkx μ n e) : bkx μ' n e := by
  unfold bkx; rw [h1]; exact h
theorem tp_of {μ μ' : si_Mm} {z : Nat} {f : Nat → Int32} (h1 : μ'.1 5 0 = μ.1 5 0) (h2 : μ'.1 25 0 = μ.1 25 0) (h : tp μ z f) : tp μ' z f := by
  unfold tp; rw [h1, h2]; exact h
theorem CR_of {μ μ' : si_Mm} {R : shT} (h1 : μ'.1 22 0 = μ.1 22 0) (h2 : μ'.1 23 0 = μ.1 23 0) (h3 : μ'.1 24 0 = μ.1 24 0) (h : CR μ R) : CR μ' R := by
  unfold CR; rw [h1, h2, h3]; exact h
theorem kp_of {μ μ' : si_Mm} {n : Nat} {K : Option gS} (h1 : μ'.1 6 0 = μ.1 6 0) (h2 : vw μ' 2 = vw μ 2) (h : kp μ n K) : kp μ' n K := by
  unfold kp at h ⊢; rw [h1, h2]; exact h
section CC
variable {sc : si_Sc} {d : Nat} {μ μ' : si_Mm} {Q : si_Po} {n : Nat} {V : Nat → Nat → (Nat → Int32) → Int32} {S : gS} {K : Option gS} {R : shT} {z : Nat} {f : Nat → Int32}
theorem CI.sx (h : CI μ n V S K R z f) (hx : sx μ μ') : CI μ' n V S K R z f := by
  obtain ⟨e, h1, h2, h3, h4, h5, h6, h7⟩ := h
  exact ⟨e, hx.cg h1, by rw [hx.cd]; exact h2, bkx_of (hx.1 _ _ (by decide)) h3, tp_of (hx.1 _ _ (by decide)) (hx.1 _ _ (by decide)) h4, CR_of (hx.1 _ _ (by decide)) (hx.1 _ _ (by decide)) (hx.1 _ _ (by decide)) h5, kp_of (hx.1 _ _ (by decide)) (sx_vw hx (by decide)) h6, h7⟩
theorem mr_vw {g g2 : Nat} {S' : gS} (h : mr g μ μ' S') (hg : g2 ≠ g) : vw μ' g2 = vw μ g2 := by
  funext a
  unfold vw
  by_cases e : gt a = true
  · rw [if_pos e, if_pos e]
    exact h.2.1 a g2 (fun q => hg q.2) (gt_s e).1 (gt_s e).2
  · rw [if_neg e, if_neg e]
theorem CI.m0 {S' : gS} (h : CI μ n V S K R z f) (hm : mr 0 μ μ' S') (hw : gw S' n) (hr : gr S') (hy : yr S') : CI μ' n V S' K R z f := by
  obtain ⟨e, h1, h2, h3, h4, h5, h6, h7⟩ := h
  have fr : ∀ a, gt a = false → a ≠ 12 → a ≠ 13 → μ'.1 a 0 = μ.1 a 0 := fun a ga a1 a2 => hm.2.1 a 0 (fun q => by rw [ga] at q; exact absurd q.1 (by decide)) a1 a2
  refine ⟨e, ⟨hm.bk h1.1, hm.1, hw, hr, ?_, ?_⟩, by rw [hm.cd]; exact h2, bkx_of (fr _ (by decide) (by decide) (by decide)) h3, tp_of (fr _ (by decide) (by decide) (by decide)) (fr _ (by decide) (by decide) (by decide)) h4, CR_of (fr _ (by decide) (by decide) (by decide)) (fr _ (by decide) (by decide) (by decide)) (fr _ (by decide) (by decide) (by decide)) h5, kp_of (fr _ (by decide) (by decide) (by decide)) (mr_vw hm (by decide)) h6, hy⟩
  · rw [mr_vw hm (by decide)]; exact h1.2.2.2.2.1
  · rw [mr_vw hm (by decide)]; exact h1.2.2.2.2.2
theorem fr4_vw {g : Nat} (h : fr4 μ μ') : vw μ' g = vw μ g := by
  funext a
  unfold vw
  by_cases e : gt a = true
  · rw [if_pos e, if_pos e]
    unfold gt at e
    rw [Bool.or_eq_true, Bool.and_eq_true, Nat.beq_eq, Nat.ble_eq, Nat.ble_eq] at e
    exact h.1 a g (by omega) (by omega) (by omega)
  · rw [if_neg e, if_neg e]
theorem CI.r4 {R' : shT} (h : CI μ n V S K R z f) (hm : fr4 μ μ') (hR : CR μ' R') : CI μ' n V S K R' z f := by
  obtain ⟨e, h1, h2, h3, h4, h5, h6, h7⟩ := h
  have fr : ∀ a, a ≠ 23 → a ≠ 24 → a ≠ 22 → μ'.1 a 0 = μ.1 a 0 := fun a a1 a2 a3 => hm.1 a 0 a1 a2 a3
  refine ⟨e, ⟨⟨h1.1.1, fun k hk => ?_, h1.1.2.2⟩, (fr4_vw hm).trans h1.2.1, h1.2.2.1, h1.2.2.2.1, ?_, ?_⟩, ?_, bkx_of (fr _ (by decide) (by decide) (by decide)) h3, tp_of (fr _ (by decide) (by decide) (by decide)) (fr _ (by decide) (by decide) (by decide)) h4, hR, kp_of (fr _ (by decide) (by decide) (by decide)) (fr4_vw hm) h6, h7⟩
  · rw [fr 11 (by decide) (by decide) (by decide)]; exact h1.1.2.1 k hk
  · rw [fr4_vw hm]; exact h1.2.2.2.2.1
  · rw [fr4_vw hm]; exact h1.2.2.2.2.2
  · rw [fr 10 (by decide) (by decide) (by decide)]; exact h2
theorem CI.gw (h : CI μ n V S K R z f) : gw S n := h.choose_spec.1.2.2.1
theorem CI.gr (h : CI μ n V S K R z f) : gr S := h.choose_spec.1.2.2.2.1
theorem CI.yr (h : CI μ n V S K R z f) : yr S := h.choose_spec.2.2.2.2.2.2
theorem CI.vr (h : CI μ n V S K R z f) : vr V := by rw [h.choose_spec.2.1]; exact vr_V
theorem CI.n6 (h : CI μ n V S K R z f) : n ≤ 6 := h.choose_spec.1.1.1
theorem CI.n1 (h : CI μ n V S K R z f) : 1 ≤ n := h.choose_spec.2.2.1.1
theorem CI.CR (h : CI μ n V S K R z f) : CR μ R := h.choose_spec.2.2.2.2.1
theorem CI.zl (h : CI μ n V S K R z f) : z ≤ 160 := h.choose_spec.2.2.2.1.1
theorem gw_swap {a b : Nat} (h : gw S n) (ha : a < gP S) (hb : b < gP S) (ha0 : 0 ≤ S 18 a) (hb0 : 0 ≤ S 18 b) : gw (y_swap S a b) n := by
  have h1 := pl_in h ha ha0
  have h2 := pl_in h hb hb0
  exact gw_pl (gw_pl h (Or.inr ⟨_, h2.1, h2.2⟩)) (Or.inr ⟨_, h1.1, h1.2⟩)
theorem gr_swap {a b : Nat} (h : gr S) (ha : a < 8) (hb : b < 8) : gr (y_swap S a b) := by
  have h1 := h 18 a
  have h2 := h 18 b
  rw [(hi_18 ha).1, (hi_18 ha).2] at h1
  rw [(hi_18 hb).1, (hi_18 hb).2] at h2
  exact gr_up (gr_up h (by rw [(hi_18 ha).1, (hi_18 ha).2]; exact h2)) (by rw [(hi_18 hb).1, (hi_18 hb).2]; exact h1)
set_option maxHeartbeats 2000000 in
theorem p_change {e : Nat → Nat} {y x : Int32} (h : cg μ n e S) (hbad : ¬ ((0 ≤ y ∧ y ≤ 30) ∧ (0 ≤ x ∧ x ≤ 1)) → Q (some (.inl (-2))) μ) (hq : ∀ N, N ≤ 30 → y = nI N → (0 ≤ x ∧ x ≤ 1) → ∀ μ', sx μ μ' → Q (some (.inl (ansB (c_chg2 (y_V (μ.1 10 0) e) N S (gP S) 0 (-1, y_well (y_ys (y_V (μ.1 10 0) e) N S))) x))) μ') : si_W sc (d + 7) 101 0 [some (.inr (.inr (6, 0))), some (.inl y), some (.inl x), none, none] [] μ Q := by
  refine k_X6_change_0 (p_isSpan (k_X6_change_4 ⟨fun hz => hbad (fun a => bi_0.mp hz a.1), fun hz => p_isFoundOrWell (k_X6_change_11 ⟨fun hy => ?_, fun hy => hbad (fun a => bi_0.mp hy a.2)⟩)⟩))
  obtain ⟨N, hN, rfl⟩ := sp_n (bi_n hz)
  have h8 := h.2.2.1.1
  have lp1 : ∀ (a : Nat), a < gP S → ∀ (m b : Nat) (q : Int32 × Int32) (μ1 : si_Mm), b + m = gP S → BI μ μ1 q → (∀ μ' : si_Mm, BI μ μ' (c_chg (y_V (μ.1 10 0) e) N S a m b q) → si_W sc (d + 7) 101 31 [some (.inr (.inr (6, 0))), some (.inl (nI N)), some (.inl x), some (.inl (nI (a + 1))), some (.inl (nI (gP S)))] [] μ' Q) → si_W sc (d + 7) 101 47 [some (.inr (.inr (6, 0))), some (.inl (nI N)), some (.inl x), some (.inl (nI a)), some (.inl (nI b))] [] μ1 Q := by
    intro a ha m
    have ca : (nI a).toNatClampNeg = a := nI_c (by omega)
    have hia : vp_in (nI a) 8 := vp_in_nI (by omega) (by omega)
    induction m with
    | zero =>
      intro b q μ1 hb B1 hk
      have h1 := B1.1.cg h
      refine k_X6_change_47 ⟨fun _ => ?_, fun hn => absurd ?_ hn⟩
      · have eb : b = gP S := by omega
        rw [nI_1, eb]; rw [c_chg] at hk; exact hk μ1 B1
      · rw [h1.P, nI_le8 (by omega) (by omega)]; omega
    | succ m ih =>
      intro b q μ1 hb B1 hk
      have h1 := B1.1.cg h
      have cb : (nI b).toNatClampNeg = b := nI_c (by omega)
      have hib : vp_in (nI b) 8 := vp_in_nI (by omega) (by omega)
      rw [c_chg] at hk
      refine k_X6_change_47 ⟨fun hn => ?_, fun _ => p_hasStrip (by omega) (k_X6_change_67 ⟨fun hz => k_X6_change_153 ?_, fun hz => p_hasStrip (by omega) (k_X6_change_79 ⟨fun hy => k_X6_change_153 ?_, fun hy => p_bec h1 fun μ2 m2 => k_X6_change_93 ⟨hib, hia, hia, hib, ?_⟩⟩)⟩)⟩
      · rw [h1.P, nI_le8 (by omega) (by omega)] at hn; omega
      · rw [h1.r (by decide)] at hz
        rw [if_neg (fun q => bi_0.mp hz q.1)] at hk
        rw [nI_1]; exact ih (b + 1) q μ1 (by omega) B1 hk
      · rw [h1.r (by decide)] at hy
        rw [if_neg (fun q => bi_0.mp hy q.2)] at hk
        rw [nI_1]; exact ih (b + 1) q μ1 (by omega) B1 hk
      · rw [h1.r (by decide)] at hz hy
        have hz' := bi_n hz
        have hy' := bi_n hy
        rw [if_pos ⟨hz', hy'⟩] at hk
        have h2 := (sx.m1 m2 h.2.2.2.1).cg h1
        rw [ca, cb, h2.r (by decide)]
        have e2 : (si_ms μ2 18 1 a (S 18 b)).1 18 0 a = S 18 a := by
          rw [ms_eq, if_neg (by simp), h2.r (by decide)]
        rw [e2]
        have m3 := m2.tr (mr.ms (g := 1) (a := 18) (k := a) (μ := μ2) (v := S 18 b) (by decide))
        rw [m2.1] at m3
        have m4 := m3.tr (mr.ms (g := 1) (a := 18) (k := b) (μ := si_ms μ2 18 1 a (S 18 b)) (v := S 18 a) (by decide))
        rw [m3.1] at m4
        refine p_wellT (S1 := y_swap S a b) (by omega) (m4.bk h1.1) m4.1 (gw_swap h.2.2.1 ha (by omega) hz' hy') (gr_swap h.2.2.2.1 (by omega) (by omega)) fun μ5 m5 g5 => k_X6_change_150 ?_
        have m6 := m4.tr m5
        rw [m4.cd, B1.1.cd] at m6 g5 ⊢
        refine p_offer (B1.m1 m6 g5) fun μ7 B7 => k_X6_change_153 ?_
        rw [nI_1]
        exact ih (b + 1) _ μ7 (by omega) B7 hk
  have lp2 : ∀ (m a : Nat) (q : Int32 × Int32) (μ1 : si_Mm) (u4 : Option si_AV), a + m = gP S → BI μ μ1 q → (∀ μ', sx μ μ' → Q (some (.inl (ansB (c_chg2 (y_V (μ.1 10 0) e) N S m a q) x))) μ') → si_W sc (d + 7) 101 31 [some (.inr (.inr (6, 0))), some (.inl (nI N)), some (.inl x), some (.inl (nI a)), u4] [] μ1 Q := by
    intro m
    induction m with
    | zero =>
      intro a q μ1 u4 ha B1 hq
      refine k_X6_change_31 ⟨fun _ => p_answer B1.2 (k_X6_change_173 (hq μ1 B1.1)), fun hn => absurd ?_ hn⟩
      rw [(B1.1.cg h).P, nI_le8 (by omega) (by omega)]; omega
    | succ m ih =>
      intro a q μ1 u4 ha B1 hq
      rw [c_chg2] at hq
      refine k_X6_change_31 ⟨fun hn => ?_, fun _ => ?_⟩
      · rw [(B1.1.cg h).P, nI_le8 (by omega) (by omega)] at hn; omega
      · rw [nI_1]
        exact lp1 a (by omega) (gP S - (a + 1)) (a + 1) q μ1 (by omega) B1 fun μ' B' => ih (a + 1) _ μ' _ (by omega) B' hq
  exact p_wellAsNow (by omega) h fun μ1 m1 s1 => k_X6_change_26 (p_start s1 fun μ2 B2 => k_X6_change_29 (lp2 (gP S) 0 _ μ2 _ (by omega) B2 (hq N hN rfl (bi_n hy))))
end CC
