/-! the main class: what is known, told, set -/
def sxa (a i : Nat) : Bool := Nat.beq a 12 || Nat.beq a 13 || Nat.beq a 0 || (gt a && Nat.beq i 1)
/-- but for the thought garden, the best and the scratch rows, all is as it was -/
def sx (μ μ' : si_Mm) : Prop := (∀ a i, sxa a i = false → μ'.1 a i = μ.1 a i) ∧ gr (vw μ' 1) ∧ μ'.2 = μ.2
theorem sx.rf {μ : si_Mm} (h : gr (vw μ 1)) : sx μ μ := ⟨fun _ _ _ => rfl, h, rfl⟩
theorem sx.tr {μ1 μ2 μ3 : si_Mm} (h : sx μ1 μ2) (g : sx μ2 μ3) : sx μ1 μ3 := ⟨fun a i e => (g.1 a i e).trans (h.1 a i e), g.2.1, g.2.2.trans h.2.2⟩
theorem sxa_f {a i : Nat} (h : sxa a i = false) : a ≠ 12 ∧ a ≠ 13 ∧ a ≠ 0 ∧ ¬ (gt a = true ∧ i = 1) := by
  unfold sxa at h
  rw [Bool.or_eq_false_iff, Bool.or_eq_false_iff, Bool.or_eq_false_iff] at h
  obtain ⟨⟨⟨h1, h2⟩, h3⟩, h4⟩ := h
  refine ⟨fun e => ?_, fun e => ?_, fun e => ?_, fun e => ?_⟩
  · rw [e] at h1; exact absurd h1 (by decide)
  · rw [e] at h2; exact absurd h2 (by decide)
  · rw [e] at h3; exact absurd h3 (by decide)
  · rw [e.1, e.2] at h4; exact absurd h4 (by decide)
theorem sx.m1 {μ μ' : si_Mm} {S : gS} (h : mr 1 μ μ' S) (hg : gr S) : sx μ μ' := ⟨fun a i e => h.2.1 a i (sxa_f e).2.2.2 (sxa_f e).1 (sxa_f e).2.1, by rw [h.1]; exact hg, h.2.2⟩
theorem sx.q2 {μ μ' : si_Mm} (h : sq2 μ μ') (hg : gr (vw μ 1)) : sx μ μ' := sx.m1 (mr.sq h) hg
theorem sx_vw {μ μ' : si_Mm} {g : Nat} (h : sx μ μ') (hg : g ≠ 1) : vw μ' g = vw μ g := by
  funext a
  unfold vw
  by_cases e : gt a = true
  · rw [if_pos e, if_pos e]
    refine h.1 a g ?_
    have e1 := gt_s e
    unfold sxa
    have b0 : Nat.beq a 0 = false := by
      cases hb : Nat.beq a 0 with
      | false => rfl
      | true => rw [Nat.beq_eq] at hb; rw [hb] at e; exact absurd e (by decide)
    have b1 : Nat.beq a 12 = false := by
      cases hb : Nat.beq a 12 with
      | false => rfl
      | true => rw [Nat.beq_eq] at hb; exact absurd hb e1.1
    have b2 : Nat.beq a 13 = false := by
      cases hb : Nat.beq a 13 with
      | false => rfl
      | true => rw [Nat.beq_eq] at hb; exact absurd hb e1.2
    have b3 : Nat.beq g 1 = false := by
      cases hb : Nat.beq g 1 with
      | false => rfl
      | true => rw [Nat.beq_eq] at hb; exact absurd hb hg
    rw [b0, b1, b2, b3, Bool.and_false]; rfl
  · rw [if_neg e, if_neg e]
/-- the garden as it is, and what the class needs to think on it -/
def cg (μ : si_Mm) (n : Nat) (e : Nat → Nat) (S : gS) : Prop := bk μ n e ∧ vw μ 0 = S ∧ gw S n ∧ gr S ∧ gr (vw μ 1) ∧ gr (vw μ 2)
theorem sx.bk {μ μ' : si_Mm} {n : Nat} {e : Nat → Nat} (h : sx μ μ') (hb : bk μ n e) : bk μ' n e := ⟨hb.1, fun k hk => by rw [h.1 _ _ (by decide)]; exact hb.2.1 k hk, hb.2.2⟩
theorem sx.cg {μ μ' : si_Mm} {n : Nat} {e : Nat → Nat} {S : gS} (h : sx μ μ') (hc : cg μ n e S) : cg μ' n e S := ⟨h.bk hc.1, (sx_vw h (by decide)).trans hc.2.1, hc.2.2.1, hc.2.2.2.1, h.2.1, by rw [sx_vw h (by decide)]; exact hc.2.2.2.2.2⟩
theorem sx.cd {μ μ' : si_Mm} (h : sx μ μ') : μ'.1 10 0 = μ.1 10 0 := h.1 _ _ (by decide)
def isP (S : gS) (o : Int32) : Prop := 0 ≤ o ∧ o < nI (gP S)
theorem isP_n {S : gS} {n : Nat} {o : Int32} (hg : gw S n) (h : isP S o) : ∃ p, p < gP S ∧ o = nI p := by
  have h8 := hg.1
  refine ⟨o.toInt.toNat, ?_, ?_⟩
  · have h2 := h.2
    have h1 := h.1
    rw [i_lt, nI_toInt (by omega)] at h2
    rw [i_le, i_0] at h1
    omega
  · have h1 := h.1
    rw [i_le, i_0] at h1
    have h2 := h.2
    rw [i_lt, nI_toInt (by omega)] at h2
    rw [i_eq, nI_toInt (by omega)]
    omega
theorem st_n {s : Int32} (h : 0 ≤ s ∧ s ≤ 5) : ∃ k, k < 6 ∧ s = nI k := by
  obtain ⟨h1, h2⟩ := h
  have e5 : (5 : Int32).toInt = 5 := by decide
  rw [i_le, i_0] at h1
  rw [i_le, e5] at h2
  exact ⟨s.toInt.toNat, by omega, by rw [i_eq, nI_toInt (by omega)]; omega⟩
def kn (S : gS) (w o : Int32) : Prop := if w = 0 then True else if w = 1 then True else if w = 2 then True else if w = 3 then (0 ≤ o ∧ o ≤ 5) else if w = 4 then (0 ≤ o ∧ o ≤ 5)
  else if w = 5 then isP S o else if w = 6 then (isP S o ∧ 0 ≤ S 18 o.toNatClampNeg) else if w = 7 then (isP S o ∧ 0 ≤ S 18 o.toNatClampNeg) else if w = 8 then (isP S o ∧ S 18 o.toNatClampNeg = -1)
  else if w = 9 then isP S o else if w = 10 then isP S o else if w = 11 then (0 ≤ o ∧ o ≤ 5) else if w = 12 then (isP S o ∧ 0 ≤ S 18 o.toNatClampNeg) else if w = 13 then (isP S o ∧ 0 ≤ S 18 o.toNatClampNeg) else False
noncomputable def vl (V : Nat → Nat → (Nat → Int32) → Int32) (S : gS) (w o : Int32) : Int32 :=
  if w = 0 then S 2 2 else if w = 1 then S 2 3 else if w = 2 then S 2 4 else if w = 3 then S 14 o.toNatClampNeg else if w = 4 then S 15 o.toNatClampNeg
  else if w = 5 then S 17 o.toNatClampNeg else if w = 6 then S 19 o.toNatClampNeg else if w = 7 then S 20 o.toNatClampNeg else if w = 8 then S 21 o.toNatClampNeg
  else if w = 9 then S 16 o.toNatClampNeg else if w = 10 then S 18 o.toNatClampNeg else if w = 11 then wI S o.toNatClampNeg
  else if w = 12 then y_eff S o.toNatClampNeg (V (gR S) 0 (nv S (stO S o.toNatClampNeg) (some o.toNatClampNeg))) else y_remI S o.toNatClampNeg (V (gR S) 2 (nv S (stO S o.toNatClampNeg) (some o.toNatClampNeg)))
def mb (w v : Int32) : Prop := if w = 0 then (0 ≤ v ∧ v ≤ 999) else if w = 1 then (0 ≤ v ∧ v ≤ 99) else if w = 2 then (1 ≤ v ∧ v ≤ 9) else if w = 3 then (0 ≤ v ∧ v ≤ 99) else if w = 4 then (0 ≤ v ∧ v ≤ 1) else if w = 5 then (0 ≤ v ∧ v ≤ 9) else if w = 6 then (0 ≤ v ∧ v ≤ 999) else if w = 7 then (0 ≤ v ∧ v ≤ 9) else if w = 8 then (0 ≤ v ∧ v ≤ 999) else False
def y_set (S : gS) (w o v : Int32) : gS := if w = 0 then upS S 2 2 v else if w = 1 then upS S 2 3 v else if w = 2 then upS S 2 4 v else if w = 3 then upS S 14 o.toNatClampNeg v else if w = 4 then upS S 15 o.toNatClampNeg v
  else if w = 5 then upS S 17 o.toNatClampNeg v else if w = 6 then upS S 19 o.toNatClampNeg v else if w = 7 then upS S 20 o.toNatClampNeg v else upS S 21 o.toNatClampNeg v
theorem bc_bi {p q : Prop} [Decidable q] (h : p ↔ q) : bc p = bi q := by
  by_cases e : q
  · rw [bi_t e, bc_t (h.mpr e)]
  · rw [bi_f e, bc_f (fun a => e (h.mp a))]
theorem bc_iff {p q : Prop} (h : p ↔ q) : bc p = bc q := by
  by_cases e : q
  · rw [bc_t e, bc_t (h.mpr e)]
  · rw [bc_f e, bc_f (fun a => e (h.mp a))]
theorem bc_01 (p : Prop) : bc p = 0 ∨ bc p = 1 := by
  by_cases e : p
  · exact Or.inr (bc_t e)
  · exact Or.inl (bc_f e)
theorem bc_0 {p : Prop} (h : bc p = 0) : ¬ p := fun e => by rw [bc_t e] at h; exact absurd h (by decide)
theorem bc_n {p : Prop} (h : ¬ bc p = 0) : p := Classical.byContradiction fun e => h (bc_f e)
theorem b1 : (1 : Int32) = 0 ∨ (1 : Int32) = 1 := Or.inr rfl
theorem b0 : (0 : Int32) = 0 ∨ (0 : Int32) = 1 := Or.inl rfl
section PM
variable {sc : si_Sc} {d : Nat} {μ : si_Mm} {Q : si_Po} {n : Nat} {e : Nat → Nat} {S : gS}
theorem cg.P (h : cg μ n e S) : μ.1 2 0 6 = nI (gP S) := by
  have := h.2.2.1.2.1
  rw [← h.2.1, vw_at (a := 2) (by decide)] at this
  rw [← h.2.1]
  exact this
theorem cg.R (h : cg μ n e S) : μ.1 2 0 5 = nI (gR S) := by
  have := h.2.2.1.2.2.2.1
  rw [← h.2.1, vw_at (a := 2) (by decide)] at this
  rw [← h.2.1]
  exact this
theorem cg.r (h : cg μ n e S) {a : Nat} (ha : gt a = true) : μ.1 a 0 = S a := by rw [← h.2.1, vw_at ha]
theorem p_isP {o : Int32} (h : cg μ n e S) (hq : Q (some (.inl (bc (isP S o)))) μ) : si_W sc d 14 0 [some (.inr (.inr (2, 0))), some (.inl o)] [] μ Q := by
  refine p_isPerson h.P h.2.2.1.1 ?_
  rw [bc_bi (p := isP S o) (q := 0 ≤ o ∧ o < nI (gP S)) Iff.rfl] at hq
  exact hq
theorem p_hasSt {o : Int32} (h : cg μ n e S) (ho : isP S o) (hq : Q (some (.inl (bc (0 ≤ S 18 o.toNatClampNeg)))) μ) : si_W sc d 15 0 [some (.inr (.inr (2, 0))), some (.inl o)] [] μ Q := by
  obtain ⟨p, hp, rfl⟩ := isP_n h.2.2.1 ho
  have h8 := h.2.2.1.1
  refine p_hasStrip (by omega) ?_
  rw [h.r (by decide)]
  rw [nI_c (by omega), bc_bi (q := 0 ≤ S 18 p) Iff.rfl] at hq
  exact hq
theorem p_isKnown {w o : Int32} (h : cg μ n e S) (hq : Q (some (.inl (bc (kn S w o)))) μ) : si_W sc (d + 2) 78 0 [some (.inr (.inr (6, 0))), some (.inl w), some (.inl o)] [] μ Q := by
  have h8 := h.2.2.1.1
  have s1 : (kn S w o ↔ (0 ≤ o ∧ o ≤ 5)) → si_W sc (d + 1) 77 0 [some (.inl o)] [] μ (fun rv μq => si_W sc (d + 2) 78 78 [some (.inr (.inr (6, 0))), some (.inl w), some (.inl o)] (si_rt rv []) μq Q) := fun hk => p_isStrip (k_X6_isKnown_78 ⟨bi_01 _, by rw [bc_bi hk] at hq; exact hq⟩)
  have s2 : (kn S w o ↔ isP S o) → si_W sc (d + 1) 14 0 [some (.inr (.inr (2, 0))), some (.inl o)] [] μ (fun rv μq => si_W sc (d + 2) 78 87 [some (.inr (.inr (6, 0))), some (.inl w), some (.inl o)] (si_rt rv []) μq Q) := fun hk => p_isP h (k_X6_isKnown_87 ⟨bc_01 _, by rw [bc_iff hk] at hq; exact hq⟩)
  have s3 : (kn S w o ↔ (isP S o ∧ 0 ≤ S 18 o.toNatClampNeg)) → si_W sc (d + 1) 14 0 [some (.inr (.inr (2, 0))), some (.inl o)] [] μ (fun rv μq => si_W sc (d + 2) 78 96 [some (.inr (.inr (6, 0))), some (.inl w), some (.inl o)] (si_rt rv []) μq Q) := by
    intro hk
    refine p_isP h (k_X6_isKnown_96 ⟨fun hz => k_X6_isKnown_114 ⟨b0, ?_⟩, fun hz => p_hasSt h (bc_n hz) (k_X6_isKnown_107 ⟨fun hy => k_X6_isKnown_114 ⟨b0, ?_⟩, fun hy => ⟨b1, ?_⟩⟩)⟩)
    · rw [bc_f (fun a => bc_0 hz (hk.mp a).1)] at hq; exact hq
    · rw [bc_f (fun a => bc_0 hy (hk.mp a).2)] at hq; exact hq
    · rw [bc_t (hk.mpr ⟨bc_n hz, bc_n hy⟩)] at hq; exact hq
  have s4 : (kn S w o ↔ (isP S o ∧ S 18 o.toNatClampNeg = -1)) → si_W sc (d + 1) 14 0 [some (.inr (.inr (2, 0))), some (.inl o)] [] μ (fun rv μq => si_W sc (d + 2) 78 124 [some (.inr (.inr (6, 0))), some (.inl w), some (.inl o)] (si_rt rv []) μq Q) := by
    intro hk
    refine p_isP h (k_X6_isKnown_124 ⟨fun hz => k_X6_isKnown_144 ⟨b0, ?_⟩, fun hz => ⟨?_, fun hy => k_X6_isKnown_144 ⟨b0, ?_⟩, fun hy => ⟨b1, ?_⟩⟩⟩)
    · rw [bc_f (fun a => bc_0 hz (hk.mp a).1)] at hq; exact hq
    · obtain ⟨p, hp, rfl⟩ := isP_n h.2.2.1 (bc_n hz)
      exact vp_in_nI (by omega) (by omega)
    · rw [h.r (by decide)] at hy
      rw [bc_f (fun a => hy (hk.mp a).2)] at hq; exact hq
    · rw [h.r (by decide)] at hy
      rw [bc_t (hk.mpr ⟨bc_n hz, hy⟩)] at hq; exact hq
  by_cases h0 : w = 0
  · subst h0
    exact k_X6_isKnown_0 ⟨fun _ => ⟨b1, by rw [bc_t (p := kn S 0 o) trivial] at hq; exact hq⟩, fun hz => absurd rfl hz⟩
  by_cases h1 : w = 1
  · subst h1
    exact k_X6_isKnown_0 ⟨fun hz => absurd hz (by decide), fun _ => ⟨fun _ => ⟨b1, by rw [bc_t (p := kn S 1 o) trivial] at hq; exact hq⟩, fun hz => absurd rfl hz⟩⟩
  by_cases h2 : w = 2
  · subst h2
    exact k_X6_isKnown_0 ⟨fun hz => absurd hz (by decide), fun _ => ⟨fun hz => absurd hz (by decide), fun _ => ⟨fun _ => ⟨b1, by rw [bc_t (p := kn S 2 o) trivial] at hq; exact hq⟩, fun hz => absurd rfl hz⟩⟩⟩
  by_cases h3 : w = 3
  · subst h3
    exact k_X6_isKnown_0 ⟨fun hz => absurd hz (by decide), fun _ => ⟨fun hz => absurd hz (by decide), fun _ => ⟨fun hz => absurd hz (by decide), fun _ => ⟨fun _ => s1 Iff.rfl, fun hz => absurd rfl hz⟩⟩⟩⟩
  by_cases h4 : w = 4
  · subst h4
    exact k_X6_isKnown_0 ⟨fun hz => absurd hz (by decide), fun _ => ⟨fun hz => absurd hz (by decide), fun _ => ⟨fun hz => absurd hz (by decide), fun _ => ⟨fun hz => absurd hz (by decide), fun _ => ⟨fun _ => s1 Iff.rfl, fun hz => absurd rfl hz⟩⟩⟩⟩⟩
  by_cases h5 : w = 5
  · subst h5
    exact k_X6_isKnown_0 ⟨fun hz => absurd hz (by decide), fun _ => ⟨fun hz => absurd hz (by decide), fun _ => ⟨fun hz => absurd hz (by decide), fun _ => ⟨fun hz => absurd hz (by decide), fun _ => ⟨fun hz => absurd hz (by decide), fun _ => ⟨fun _ => s2 Iff.rfl, fun hz => absurd rfl hz⟩⟩⟩⟩⟩⟩
  by_cases h6 : w = 6
  · subst h6
    exact k_X6_isKnown_0 ⟨fun hz => absurd hz (by decide), fun _ => ⟨fun hz => absurd hz (by decide), fun _ => ⟨fun hz => absurd hz (by decide), fun _ => ⟨fun hz => absurd hz (by decide), fun _ => ⟨fun hz => absurd hz (by decide), fun _ => ⟨fun hz => absurd hz (by decide), fun _ => ⟨fun _ => s3 Iff.rfl, fun hz => absurd rfl hz⟩⟩⟩⟩⟩⟩⟩
  by_cases h7 : w = 7
  · subst h7
    exact k_X6_isKnown_0 ⟨fun hz => absurd hz (by decide), fun _ => ⟨fun hz => absurd hz (by decide), fun _ => ⟨fun hz => absurd hz (by decide), fun _ => ⟨fun hz => absurd hz (by decide), fun _ => ⟨fun hz => absurd hz (by decide), fun _ => ⟨fun hz => absurd hz (by decide), fun _ => ⟨fun hz => absurd hz (by decide), fun _ => ⟨fun _ => s3 Iff.rfl, fun hz => absurd rfl hz⟩⟩⟩⟩⟩⟩⟩⟩
  by_cases h8 : w = 8
  · subst h8
    exact k_X6_isKnown_0 ⟨fun hz => absurd hz (by decide), fun _ => ⟨fun hz => absurd hz (by decide), fun _ => ⟨fun hz => absurd hz (by decide), fun _ => ⟨fun hz => absurd hz (by decide), fun _ => ⟨fun hz => absurd hz (by decide), fun _ => ⟨fun hz => absurd hz (by decide), fun _ => ⟨fun hz => absurd hz (by decide), fun _ => ⟨fun hz => absurd hz (by decide), fun _ => ⟨fun _ => s4 Iff.rfl, fun hz => absurd rfl hz⟩⟩⟩⟩⟩⟩⟩⟩⟩
  by_cases h9 : w = 9
  · subst h9
    exact k_X6_isKnown_0 ⟨fun hz => absurd hz (by decide), fun _ => ⟨fun hz => absurd hz (by decide), fun _ => ⟨fun hz => absurd hz (by decide), fun _ => ⟨fun hz => absurd hz (by decide), fun _ => ⟨fun hz => absurd hz (by decide), fun _ => ⟨fun hz => absurd hz (by decide), fun _ => ⟨fun hz => absurd hz (by decide), fun _ => ⟨fun hz => absurd hz (by decide), fun _ => ⟨fun hz => absurd hz (by decide), fun _ => ⟨fun _ => s2 Iff.rfl, fun hz => absurd rfl hz⟩⟩⟩⟩⟩⟩⟩⟩⟩⟩
  by_cases h10 : w = 10
  · subst h10
    exact k_X6_isKnown_0 ⟨fun hz => absurd hz (by decide), fun _ => ⟨fun hz => absurd hz (by decide), fun _ => ⟨fun hz => absurd hz (by decide), fun _ => ⟨fun hz => absurd hz (by decide), fun _ => ⟨fun hz => absurd hz (by decide), fun _ => ⟨fun hz => absurd hz (by decide), fun _ => ⟨fun hz => absurd hz (by decide), fun _ => ⟨fun hz => absurd hz (by decide), fun _ => ⟨fun hz => absurd hz (by decide), fun _ => ⟨fun hz => absurd hz (by decide), fun _ => ⟨fun _ => s2 Iff.rfl, fun hz => absurd rfl hz⟩⟩⟩⟩⟩⟩⟩⟩⟩⟩⟩
  by_cases h11 : w = 11
  · subst h11
    exact k_X6_isKnown_0 ⟨fun hz => absurd hz (by decide), fun _ => ⟨fun hz => absurd hz (by decide), fun _ => ⟨fun hz => absurd hz (by decide), fun _ => ⟨fun hz => absurd hz (by decide), fun _ => ⟨fun hz => absurd hz (by decide), fun _ => ⟨fun hz => absurd hz (by decide), fun _ => ⟨fun hz => absurd hz (by decide), fun _ => ⟨fun hz => absurd hz (by decide), fun _ => ⟨fun hz => absurd hz (by decide), fun _ => ⟨fun hz => absurd hz (by decide), fun _ => ⟨fun hz => absurd hz (by decide), fun _ => ⟨fun _ => s1 Iff.rfl, fun hz => absurd rfl hz⟩⟩⟩⟩⟩⟩⟩⟩⟩⟩⟩⟩
  by_cases h12 : w = 12
  · subst h12
    exact k_X6_isKnown_0 ⟨fun hz => absurd hz (by decide), fun _ => ⟨fun hz => absurd hz (by decide), fun _ => ⟨fun hz => absurd hz (by decide), fun _ => ⟨fun hz => absurd hz (by decide), fun _ => ⟨fun hz => absurd hz (by decide), fun _ => ⟨fun hz => absurd hz (by decide), fun _ => ⟨fun hz => absurd hz (by decide), fun _ => ⟨fun hz => absurd hz (by decide), fun _ => ⟨fun hz => absurd hz (by decide), fun _ => ⟨fun hz => absurd hz (by decide), fun _ => ⟨fun hz => absurd hz (by decide), fun _ => ⟨fun hz => absurd hz (by decide), fun _ => ⟨fun _ => s3 Iff.rfl, fun hz => absurd rfl hz⟩⟩⟩⟩⟩⟩⟩⟩⟩⟩⟩⟩⟩
  by_cases h13 : w = 13
  · subst h13
    exact k_X6_isKnown_0 ⟨fun hz => absurd hz (by decide), fun _ => ⟨fun hz => absurd hz (by decide), fun _ => ⟨fun hz => absurd hz (by decide), fun _ => ⟨fun hz => absurd hz (by decide), fun _ => ⟨fun hz => absurd hz (by decide), fun _ => ⟨fun hz => absurd hz (by decide), fun _ => ⟨fun hz => absurd hz (by decide), fun _ => ⟨fun hz => absurd hz (by decide), fun _ => ⟨fun hz => absurd hz (by decide), fun _ => ⟨fun hz => absurd hz (by decide), fun _ => ⟨fun hz => absurd hz (by decide), fun _ => ⟨fun hz => absurd hz (by decide), fun _ => ⟨fun hz => absurd hz (by decide), fun _ => ⟨fun _ => s3 Iff.rfl, fun hz => absurd rfl hz⟩⟩⟩⟩⟩⟩⟩⟩⟩⟩⟩⟩⟩⟩
  refine k_X6_isKnown_0 ⟨fun hz => absurd hz h0, fun _ => ⟨fun hz => absurd hz h1, fun _ => ⟨fun hz => absurd hz h2, fun _ => ⟨fun hz => absurd hz h3, fun _ => ⟨fun hz => absurd hz h4, fun _ => ⟨fun hz => absurd hz h5, fun _ => ⟨fun hz => absurd hz h6, fun _ => ⟨fun hz => absurd hz h7, fun _ => ⟨fun hz => absurd hz h8, fun _ => ⟨fun hz => absurd hz h9, fun _ => ⟨fun hz => absurd hz h10, fun _ => ⟨fun hz => absurd hz h11, fun _ => ⟨fun hz => absurd hz h12, fun _ => ⟨fun hz => absurd hz h13, fun _ => ⟨b0, ?_⟩⟩⟩⟩⟩⟩⟩⟩⟩⟩⟩⟩⟩⟩⟩
  rw [bc_f] at hq
  · exact hq
  · unfold kn
    rw [if_neg h0, if_neg h1, if_neg h2, if_neg h3, if_neg h4, if_neg h5, if_neg h6, if_neg h7, if_neg h8, if_neg h9, if_neg h10, if_neg h11, if_neg h12, if_neg h13]
    exact id
theorem st_in {s : Int32} (h : 0 ≤ s ∧ s ≤ 5) : vp_in s 6 := by
  obtain ⟨k, hk, rfl⟩ := st_n h
  exact vp_in_nI hk (by omega)
theorem isP_in {o : Int32} (hg : gw S n) (h : isP S o) : vp_in o 8 := by
  obtain ⟨p, hp, rfl⟩ := isP_n hg h
  have := hg.1
  exact vp_in_nI (by omega) (by omega)
set_option maxHeartbeats 2000000 in
theorem p_valueOf {w o : Int32} (h : cg μ n e S) (hk : kn S w o) (hq : ∀ μ', sx μ μ' → Q (some (.inl (vl (y_V (μ.1 10 0) e) S w o))) μ') : si_W sc (d + 3) 79 0 [some (.inr (.inr (6, 0))), some (.inl w), some (.inl o)] [] μ Q := by
  have hP8 := h.2.2.1.1
  have hq0 := hq μ (sx.rf h.2.2.2.2.1)
  by_cases h0 : w = 0
  · subst h0
    refine k_X6_valueOf_0 ⟨fun _ => ?_, fun hz => absurd rfl hz⟩
    rw [h.r (by decide)]; exact hq0
  by_cases h1 : w = 1
  · subst h1
    refine k_X6_valueOf_0 ⟨fun hz => absurd hz (by decide), fun _ => ⟨fun _ => ?_, fun hz => absurd rfl hz⟩⟩
    rw [h.r (by decide)]; exact hq0
  by_cases h2 : w = 2
  · subst h2
    refine k_X6_valueOf_0 ⟨fun hz => absurd hz (by decide), fun _ => ⟨fun hz => absurd hz (by decide), fun _ => ⟨fun _ => ?_, fun hz => absurd rfl hz⟩⟩⟩
    rw [h.r (by decide)]; exact hq0
  by_cases h3 : w = 3
  · subst h3
    refine k_X6_valueOf_0 ⟨fun hz => absurd hz (by decide), fun _ => ⟨fun hz => absurd hz (by decide), fun _ => ⟨fun hz => absurd hz (by decide), fun _ => ⟨fun _ => ⟨st_in hk, ?_⟩, fun hz => absurd rfl hz⟩⟩⟩⟩
    rw [h.r (by decide)]; exact hq0
  by_cases h4 : w = 4
  · subst h4
    refine k_X6_valueOf_0 ⟨fun hz => absurd hz (by decide), fun _ => ⟨fun hz => absurd hz (by decide), fun _ => ⟨fun hz => absurd hz (by decide), fun _ => ⟨fun hz => absurd hz (by decide), fun _ => ⟨fun _ => ⟨st_in hk, ?_⟩, fun hz => absurd rfl hz⟩⟩⟩⟩⟩
    rw [h.r (by decide)]; exact hq0
  by_cases h5 : w = 5
  · subst h5
    refine k_X6_valueOf_0 ⟨fun hz => absurd hz (by decide), fun _ => ⟨fun hz => absurd hz (by decide), fun _ => ⟨fun hz => absurd hz (by decide), fun _ => ⟨fun hz => absurd hz (by decide), fun _ => ⟨fun hz => absurd hz (by decide), fun _ => ⟨fun _ => ⟨isP_in h.2.2.1 hk, ?_⟩, fun hz => absurd rfl hz⟩⟩⟩⟩⟩⟩
    rw [h.r (by decide)]; exact hq0
  by_cases h6 : w = 6
  · subst h6
    refine k_X6_valueOf_0 ⟨fun hz => absurd hz (by decide), fun _ => ⟨fun hz => absurd hz (by decide), fun _ => ⟨fun hz => absurd hz (by decide), fun _ => ⟨fun hz => absurd hz (by decide), fun _ => ⟨fun hz => absurd hz (by decide), fun _ => ⟨fun hz => absurd hz (by decide), fun _ => ⟨fun _ => ⟨isP_in h.2.2.1 hk.1, ?_⟩, fun hz => absurd rfl hz⟩⟩⟩⟩⟩⟩⟩
    rw [h.r (by decide)]; exact hq0
  by_cases h7 : w = 7
  · subst h7
    refine k_X6_valueOf_0 ⟨fun hz => absurd hz (by decide), fun _ => ⟨fun hz => absurd hz (by decide), fun _ => ⟨fun hz => absurd hz (by decide), fun _ => ⟨fun hz => absurd hz (by decide), fun _ => ⟨fun hz => absurd hz (by decide), fun _ => ⟨fun hz => absurd hz (by decide), fun _ => ⟨fun hz => absurd hz (by decide), fun _ => ⟨fun _ => ⟨isP_in h.2.2.1 hk.1, ?_⟩, fun hz => absurd rfl hz⟩⟩⟩⟩⟩⟩⟩⟩
    rw [h.r (by decide)]; exact hq0
  by_cases h8 : w = 8
  · subst h8
    refine k_X6_valueOf_0 ⟨fun hz => absurd hz (by decide), fun _ => ⟨fun hz => absurd hz (by decide), fun _ => ⟨fun hz => absurd hz (by decide), fun _ => ⟨fun hz => absurd hz (by decide), fun _ => ⟨fun hz => absurd hz (by decide), fun _ => ⟨fun hz => absurd hz (by decide), fun _ => ⟨fun hz => absurd hz (by decide), fun _ => ⟨fun hz => absurd hz (by decide), fun _ => ⟨fun _ => ⟨isP_in h.2.2.1 hk.1, ?_⟩, fun hz => absurd rfl hz⟩⟩⟩⟩⟩⟩⟩⟩⟩
    rw [h.r (by decide)]; exact hq0
  by_cases h9 : w = 9
  · subst h9
    refine k_X6_valueOf_0 ⟨fun hz => absurd hz (by decide), fun _ => ⟨fun hz => absurd hz (by decide), fun _ => ⟨fun hz => absurd hz (by decide), fun _ => ⟨fun hz => absurd hz (by decide), fun _ => ⟨fun hz => absurd hz (by decide), fun _ => ⟨fun hz => absurd hz (by decide), fun _ => ⟨fun hz => absurd hz (by decide), fun _ => ⟨fun hz => absurd hz (by decide), fun _ => ⟨fun hz => absurd hz (by decide), fun _ => ⟨fun _ => ⟨isP_in h.2.2.1 hk, ?_⟩, fun hz => absurd rfl hz⟩⟩⟩⟩⟩⟩⟩⟩⟩⟩
    rw [h.r (by decide)]; exact hq0
  by_cases h10 : w = 10
  · subst h10
    refine k_X6_valueOf_0 ⟨fun hz => absurd hz (by decide), fun _ => ⟨fun hz => absurd hz (by decide), fun _ => ⟨fun hz => absurd hz (by decide), fun _ => ⟨fun hz => absurd hz (by decide), fun _ => ⟨fun hz => absurd hz (by decide), fun _ => ⟨fun hz => absurd hz (by decide), fun _ => ⟨fun hz => absurd hz (by decide), fun _ => ⟨fun hz => absurd hz (by decide), fun _ => ⟨fun hz => absurd hz (by decide), fun _ => ⟨fun hz => absurd hz (by decide), fun _ => ⟨fun _ => ⟨isP_in h.2.2.1 hk, ?_⟩, fun hz => absurd rfl hz⟩⟩⟩⟩⟩⟩⟩⟩⟩⟩⟩
    rw [h.r (by decide)]; exact hq0
  by_cases h11 : w = 11
  · subst h11
    refine k_X6_valueOf_0 ⟨fun hz => absurd hz (by decide), fun _ => ⟨fun hz => absurd hz (by decide), fun _ => ⟨fun hz => absurd hz (by decide), fun _ => ⟨fun hz => absurd hz (by decide), fun _ => ⟨fun hz => absurd hz (by decide), fun _ => ⟨fun hz => absurd hz (by decide), fun _ => ⟨fun hz => absurd hz (by decide), fun _ => ⟨fun hz => absurd hz (by decide), fun _ => ⟨fun hz => absurd hz (by decide), fun _ => ⟨fun hz => absurd hz (by decide), fun _ => ⟨fun hz => absurd hz (by decide), fun _ => ⟨fun _ => ?_, fun hz => absurd rfl hz⟩⟩⟩⟩⟩⟩⟩⟩⟩⟩⟩⟩
    have hst : 0 ≤ o ∧ o ≤ 5 := hk
    obtain ⟨s, hs, rfl⟩ := st_n hst
    refine p_holder h.P hP8 ?_
    rw [h.r (by decide)]
    refine k_X6_valueOf_180 ?_
    have ev : vl (y_V (μ.1 10 0) e) S 11 (nI s) = wI S (nI s).toNatClampNeg := rfl
    rw [ev, nI_c (by omega)] at hq0
    exact hq0
  have hk2 : (isP S o ∧ 0 ≤ S 18 o.toNatClampNeg) ∧ (w = 12 ∨ w = 13) := by
    unfold kn at hk
    rw [if_neg h0, if_neg h1, if_neg h2, if_neg h3, if_neg h4, if_neg h5, if_neg h6, if_neg h7, if_neg h8, if_neg h9, if_neg h10, if_neg h11] at hk
    split at hk
    · exact ⟨hk, Or.inl ‹_›⟩
    · split at hk
      · exact ⟨hk, Or.inr ‹_›⟩
      · exact hk.elim
  obtain ⟨⟨hP, hst⟩, hw⟩ := hk2
  obtain ⟨p, hp, rfl⟩ := isP_n h.2.2.1 hP
  rw [nI_c (by omega)] at hst
  have hpl := pl_in h.2.2.1 hp hst
  have hb := h.1
  have hin : vp_in (nI p) 8 := vp_in_nI (by omega) (by omega)
  have hS : (fun a => μ.1 a 0) = (fun a => μ.1 a 0) := rfl
  have ask : ∀ (pn : Nat) (Q' : si_Po), pn < 3 → (∀ μ', sq2 μ μ' → Q' (some (.inl (y_V (μ.1 10 0) e (gR S) pn (nv S (stO S p) (some p))))) μ') → si_W sc (d + 2) 28 0 [some (.inr (.inr (2, 0))), some (.inl (nI pn)), some (.inl (μ.1 18 0 (nI p).toNatClampNeg)), some (.inl (nI p)), none] [] μ Q' := by
    intro pn Q' hpn hq'
    rw [nI_c (by omega), h.r (by decide), hpl.2]
    refine p_ask (P := gP S) (tn := gR S) (s := stO S p) (o := some p) hb h.2.2.1.2.2.1 hpn h.R h.P hP8 hpl.1 ⟨hp, rfl⟩ ?_
    intro μ' h'
    rw [nv_vw, h.2.1]
    exact hq' μ' h'
  by_cases h12 : w = 12
  · subst h12
    have ev : vl (y_V (μ.1 10 0) e) S 12 (nI p) = y_eff S (nI p).toNatClampNeg (y_V (μ.1 10 0) e (gR S) 0 (nv S (stO S (nI p).toNatClampNeg) (some (nI p).toNatClampNeg))) := rfl
    rw [ev, nI_c (by omega)] at hq
    refine k_X6_valueOf_0 ⟨fun hz => absurd hz (by decide), fun _ => ⟨fun hz => absurd hz (by decide), fun _ => ⟨fun hz => absurd hz (by decide), fun _ => ⟨fun hz => absurd hz (by decide), fun _ => ⟨fun hz => absurd hz (by decide), fun _ => ⟨fun hz => absurd hz (by decide), fun _ => ⟨fun hz => absurd hz (by decide), fun _ => ⟨fun hz => absurd hz (by decide), fun _ => ⟨fun hz => absurd hz (by decide), fun _ => ⟨fun hz => absurd hz (by decide), fun _ => ⟨fun hz => absurd hz (by decide), fun _ => ⟨fun hz => absurd hz (by decide), fun _ => ⟨fun _ => ⟨hin, ask 0 _ (by decide) ?_⟩, fun hz => absurd rfl hz⟩⟩⟩⟩⟩⟩⟩⟩⟩⟩⟩⟩⟩
    intro μ' h'
    refine k_X6_valueOf_204 (p_effort (by omega) (k_X6_valueOf_207 ?_))
    have hx := sx.q2 h' h.2.2.2.2.1
    rw [sx_vw hx (by decide), h.2.1]
    exact hq μ' hx
  · have h13 : w = 13 := hw.resolve_left h12
    subst h13
    have ev : vl (y_V (μ.1 10 0) e) S 13 (nI p) = y_remI S (nI p).toNatClampNeg (y_V (μ.1 10 0) e (gR S) 2 (nv S (stO S (nI p).toNatClampNeg) (some (nI p).toNatClampNeg))) := rfl
    rw [ev, nI_c (by omega)] at hq
    refine k_X6_valueOf_0 ⟨fun hz => absurd hz (by decide), fun _ => ⟨fun hz => absurd hz (by decide), fun _ => ⟨fun hz => absurd hz (by decide), fun _ => ⟨fun hz => absurd hz (by decide), fun _ => ⟨fun hz => absurd hz (by decide), fun _ => ⟨fun hz => absurd hz (by decide), fun _ => ⟨fun hz => absurd hz (by decide), fun _ => ⟨fun hz => absurd hz (by decide), fun _ => ⟨fun hz => absurd hz (by decide), fun _ => ⟨fun hz => absurd hz (by decide), fun _ => ⟨fun hz => absurd hz (by decide), fun _ => ⟨fun hz => absurd hz (by decide), fun _ => ⟨fun hz => absurd hz (by decide), fun _ => ⟨hin, ask 2 _ (by decide) ?_⟩⟩⟩⟩⟩⟩⟩⟩⟩⟩⟩⟩⟩⟩
    intro μ' h'
    have hx := sx.q2 h' h.2.2.2.2.1
    refine k_X6_valueOf_231 (p_remains (by omega) (k_X6_valueOf_234 ⟨fun hz => ?_, fun hz => ?_⟩))
    · rw [sx_vw hx (by decide), h.2.1] at hz
      have := hq μ' hx
      rw [hz] at this; exact this
    · rw [sx_vw hx (by decide), h.2.1] at hz
      have := hq μ' hx
      rcases bc_01 (y_rem S p (y_V (μ.1 10 0) e (gR S) 2 (nv S (stO S p) (some p)))) with e1 | e1
      · exact absurd e1 hz
      · have e2 : y_remI S p (y_V (μ.1 10 0) e (gR S) 2 (nv S (stO S p) (some p))) = 1 := e1
        rw [e2] at this; exact this
noncomputable def a_told (V : Nat → Nat → (Nat → Int32) → Int32) (S : gS) (o w : Int32) : Int32 := @ite _ (kn S w o) (Classical.propDecidable _) (vl V S w o) (-2)
theorem a_told_t {V : Nat → Nat → (Nat → Int32) → Int32} {o w : Int32} (h : kn S w o) : a_told V S o w = vl V S w o := if_pos h
theorem a_told_f {V : Nat → Nat → (Nat → Int32) → Int32} {o w : Int32} (h : ¬ kn S w o) : a_told V S o w = -2 := if_neg h
theorem p_told {w o : Int32} (h : cg μ n e S) (hq : ∀ μ', sx μ μ' → Q (some (.inl (a_told (y_V (μ.1 10 0) e) S o w))) μ') : si_W sc (d + 4) 82 0 [some (.inr (.inr (6, 0))), some (.inl o), some (.inl w)] [] μ Q := by
  refine k_X6_told_0 (p_isKnown h (k_X6_told_6 ⟨fun hz => ?_, fun hz => p_valueOf h (bc_n hz) fun μ' h' => k_X6_told_15 ?_⟩))
  · have := hq μ (sx.rf h.2.2.2.2.1)
    rw [a_told_f (bc_0 hz)] at this; exact this
  · have := hq μ' h'
    rw [a_told_t (bc_n hz)] at this; exact this
theorem p_mayBe {w v : Int32} (hq : Q (some (.inl (bc (mb w v)))) μ) : si_W sc (d + 1) 76 0 [some (.inl w), some (.inl v)] [] μ Q := by
  by_cases h0 : w = 0
  · subst h0
    exact k_X6_mayBe_0 ⟨fun _ => p_isWithin (k_X6_mayBe_60 ⟨bi_01 _, by rw [bc_bi (p := mb 0 v) (q := 0 ≤ v ∧ v ≤ 999) Iff.rfl] at hq; exact hq⟩), fun hz => absurd rfl hz⟩
  by_cases h1 : w = 1
  · subst h1
    exact k_X6_mayBe_0 ⟨fun hz => absurd hz (by decide), fun _ => ⟨fun _ => p_isWithin (k_X6_mayBe_68 ⟨bi_01 _, by rw [bc_bi (p := mb 1 v) (q := 0 ≤ v ∧ v ≤ 99) Iff.rfl] at hq; exact hq⟩), fun hz => absurd rfl hz⟩⟩
  by_cases h2 : w = 2
  · subst h2
    exact k_X6_mayBe_0 ⟨fun hz => absurd hz (by decide), fun _ => ⟨fun hz => absurd hz (by decide), fun _ => ⟨fun _ => p_isWithin (k_X6_mayBe_76 ⟨bi_01 _, by rw [bc_bi (p := mb 2 v) (q := 1 ≤ v ∧ v ≤ 9) Iff.rfl] at hq; exact hq⟩), fun hz => absurd rfl hz⟩⟩⟩
  by_cases h3 : w = 3
  · subst h3
    exact k_X6_mayBe_0 ⟨fun hz => absurd hz (by decide), fun _ => ⟨fun hz => absurd hz (by decide), fun _ => ⟨fun hz => absurd hz (by decide), fun _ => ⟨fun _ => p_isWithin (k_X6_mayBe_84 ⟨bi_01 _, by rw [bc_bi (p := mb 3 v) (q := 0 ≤ v ∧ v ≤ 99) Iff.rfl] at hq; exact hq⟩), fun hz => absurd rfl hz⟩⟩⟩⟩
  by_cases h4 : w = 4
  · subst h4
    exact k_X6_mayBe_0 ⟨fun hz => absurd hz (by decide), fun _ => ⟨fun hz => absurd hz (by decide), fun _ => ⟨fun hz => absurd hz (by decide), fun _ => ⟨fun hz => absurd hz (by decide), fun _ => ⟨fun _ => p_isWithin (k_X6_mayBe_91 ⟨bi_01 _, by rw [bc_bi (p := mb 4 v) (q := 0 ≤ v ∧ v ≤ 1) Iff.rfl] at hq; exact hq⟩), fun hz => absurd rfl hz⟩⟩⟩⟩⟩
  by_cases h5 : w = 5
  · subst h5
    exact k_X6_mayBe_0 ⟨fun hz => absurd hz (by decide), fun _ => ⟨fun hz => absurd hz (by decide), fun _ => ⟨fun hz => absurd hz (by decide), fun _ => ⟨fun hz => absurd hz (by decide), fun _ => ⟨fun hz => absurd hz (by decide), fun _ => ⟨fun _ => p_isWithin (k_X6_mayBe_99 ⟨bi_01 _, by rw [bc_bi (p := mb 5 v) (q := 0 ≤ v ∧ v ≤ 9) Iff.rfl] at hq; exact hq⟩), fun hz => absurd rfl hz⟩⟩⟩⟩⟩⟩
  by_cases h6 : w = 6
  · subst h6
    exact k_X6_mayBe_0 ⟨fun hz => absurd hz (by decide), fun _ => ⟨fun hz => absurd hz (by decide), fun _ => ⟨fun hz => absurd hz (by decide), fun _ => ⟨fun hz => absurd hz (by decide), fun _ => ⟨fun hz => absurd hz (by decide), fun _ => ⟨fun hz => absurd hz (by decide), fun _ => ⟨fun _ => p_isWithin (k_X6_mayBe_108 ⟨bi_01 _, by rw [bc_bi (p := mb 6 v) (q := 0 ≤ v ∧ v ≤ 999) Iff.rfl] at hq; exact hq⟩), fun hz => absurd rfl hz⟩⟩⟩⟩⟩⟩⟩
  by_cases h7 : w = 7
  · subst h7
    exact k_X6_mayBe_0 ⟨fun hz => absurd hz (by decide), fun _ => ⟨fun hz => absurd hz (by decide), fun _ => ⟨fun hz => absurd hz (by decide), fun _ => ⟨fun hz => absurd hz (by decide), fun _ => ⟨fun hz => absurd hz (by decide), fun _ => ⟨fun hz => absurd hz (by decide), fun _ => ⟨fun hz => absurd hz (by decide), fun _ => ⟨fun _ => p_isWithin (k_X6_mayBe_116 ⟨bi_01 _, by rw [bc_bi (p := mb 7 v) (q := 0 ≤ v ∧ v ≤ 9) Iff.rfl] at hq; exact hq⟩), fun hz => absurd rfl hz⟩⟩⟩⟩⟩⟩⟩⟩
  by_cases h8 : w = 8
  · subst h8
    exact k_X6_mayBe_0 ⟨fun hz => absurd hz (by decide), fun _ => ⟨fun hz => absurd hz (by decide), fun _ => ⟨fun hz => absurd hz (by decide), fun _ => ⟨fun hz => absurd hz (by decide), fun _ => ⟨fun hz => absurd hz (by decide), fun _ => ⟨fun hz => absurd hz (by decide), fun _ => ⟨fun hz => absurd hz (by decide), fun _ => ⟨fun hz => absurd hz (by decide), fun _ => ⟨fun _ => p_isWithin (k_X6_mayBe_125 ⟨bi_01 _, by rw [bc_bi (p := mb 8 v) (q := 0 ≤ v ∧ v ≤ 999) Iff.rfl] at hq; exact hq⟩), fun hz => absurd rfl hz⟩⟩⟩⟩⟩⟩⟩⟩⟩
  refine k_X6_mayBe_0 ⟨fun hz => absurd hz h0, fun _ => ⟨fun hz => absurd hz h1, fun _ => ⟨fun hz => absurd hz h2, fun _ => ⟨fun hz => absurd hz h3, fun _ => ⟨fun hz => absurd hz h4, fun _ => ⟨fun hz => absurd hz h5, fun _ => ⟨fun hz => absurd hz h6, fun _ => ⟨fun hz => absurd hz h7, fun _ => ⟨fun hz => absurd hz h8, fun _ => ⟨b0, ?_⟩⟩⟩⟩⟩⟩⟩⟩⟩⟩
  rw [bc_f] at hq
  · exact hq
  · unfold mb
    rw [if_neg h0, if_neg h1, if_neg h2, if_neg h3, if_neg h4, if_neg h5, if_neg h6, if_neg h7, if_neg h8]
    exact id
/-- what set answers, and what it makes of the garden -/
theorem p_set {w o v : Int32} (h : cg μ n e S) (hbad : ¬ (mb w v ∧ kn S w o) → Q (some (.inl (-2))) μ) (hq : mb w v → kn S w o → ∀ μ' μ2, sx μ μ' → mr 0 μ' μ2 (y_set S w o v) → Q (some (.inl (vl (y_V (μ.1 10 0) e) S w o))) μ2) : si_W sc (d + 4) 80 0 [some (.inr (.inr (6, 0))), some (.inl w), some (.inl o), some (.inl v), none] [] μ Q := by
  refine k_X6_set_0 (p_mayBe (k_X6_set_5 ⟨fun hz => hbad (fun a => bc_0 hz a.1), fun hz => p_isKnown h (k_X6_set_14 ⟨fun hy => p_valueOf h (bc_n hy) fun μ' h' => ?_, fun hy => hbad (fun a => bc_0 hy a.2)⟩)⟩))
  have hm := bc_n hz
  have hk := bc_n hy
  have hq1 := hq hm hk μ'
  have e0 : vw μ' 0 = S := (sx_vw h' (by decide)).trans h.2.1
  by_cases h0 : w = 0
  · subst h0
    refine k_X6_set_26 ⟨fun _ => hq1 _ h' ?_, fun hz => absurd rfl hz⟩
    have m0 := mr.ms (g := 0) (a := 2) (k := 2) (μ := μ') (v := v) (by decide)
    rw [e0] at m0
    exact m0
  by_cases h1 : w = 1
  · subst h1
    refine k_X6_set_26 ⟨fun hz => absurd hz (by decide), fun _ => ⟨fun _ => hq1 _ h' ?_, fun hz => absurd rfl hz⟩⟩
    have m0 := mr.ms (g := 0) (a := 2) (k := 3) (μ := μ') (v := v) (by decide)
    rw [e0] at m0
    exact m0
  by_cases h2 : w = 2
  · subst h2
    refine k_X6_set_26 ⟨fun hz => absurd hz (by decide), fun _ => ⟨fun hz => absurd hz (by decide), fun _ => ⟨fun _ => hq1 _ h' ?_, fun hz => absurd rfl hz⟩⟩⟩
    have m0 := mr.ms (g := 0) (a := 2) (k := 4) (μ := μ') (v := v) (by decide)
    rw [e0] at m0
    exact m0
  by_cases h3 : w = 3
  · subst h3
    refine k_X6_set_26 ⟨fun hz => absurd hz (by decide), fun _ => ⟨fun hz => absurd hz (by decide), fun _ => ⟨fun hz => absurd hz (by decide), fun _ => ⟨fun _ => ⟨st_in hk, hq1 _ h' ?_⟩, fun hz => absurd rfl hz⟩⟩⟩⟩
    have m0 := mr.ms (g := 0) (a := 14) (k := o.toNatClampNeg) (μ := μ') (v := v) (by decide)
    rw [e0] at m0
    exact m0
  by_cases h4 : w = 4
  · subst h4
    refine k_X6_set_26 ⟨fun hz => absurd hz (by decide), fun _ => ⟨fun hz => absurd hz (by decide), fun _ => ⟨fun hz => absurd hz (by decide), fun _ => ⟨fun hz => absurd hz (by decide), fun _ => ⟨fun _ => ⟨st_in hk, hq1 _ h' ?_⟩, fun hz => absurd rfl hz⟩⟩⟩⟩⟩
    have m0 := mr.ms (g := 0) (a := 15) (k := o.toNatClampNeg) (μ := μ') (v := v) (by decide)
    rw [e0] at m0
    exact m0
  by_cases h5 : w = 5
  · subst h5
    refine k_X6_set_26 ⟨fun hz => absurd hz (by decide), fun _ => ⟨fun hz => absurd hz (by decide), fun _ => ⟨fun hz => absurd hz (by decide), fun _ => ⟨fun hz => absurd hz (by decide), fun _ => ⟨fun hz => absurd hz (by decide), fun _ => ⟨fun _ => ⟨isP_in h.2.2.1 hk, hq1 _ h' ?_⟩, fun hz => absurd rfl hz⟩⟩⟩⟩⟩⟩
    have m0 := mr.ms (g := 0) (a := 17) (k := o.toNatClampNeg) (μ := μ') (v := v) (by decide)
    rw [e0] at m0
    exact m0
  by_cases h6 : w = 6
  · subst h6
    refine k_X6_set_26 ⟨fun hz => absurd hz (by decide), fun _ => ⟨fun hz => absurd hz (by decide), fun _ => ⟨fun hz => absurd hz (by decide), fun _ => ⟨fun hz => absurd hz (by decide), fun _ => ⟨fun hz => absurd hz (by decide), fun _ => ⟨fun hz => absurd hz (by decide), fun _ => ⟨fun _ => ⟨isP_in h.2.2.1 hk.1, hq1 _ h' ?_⟩, fun hz => absurd rfl hz⟩⟩⟩⟩⟩⟩⟩
    have m0 := mr.ms (g := 0) (a := 19) (k := o.toNatClampNeg) (μ := μ') (v := v) (by decide)
    rw [e0] at m0
    exact m0
  by_cases h7 : w = 7
  · subst h7
    refine k_X6_set_26 ⟨fun hz => absurd hz (by decide), fun _ => ⟨fun hz => absurd hz (by decide), fun _ => ⟨fun hz => absurd hz (by decide), fun _ => ⟨fun hz => absurd hz (by decide), fun _ => ⟨fun hz => absurd hz (by decide), fun _ => ⟨fun hz => absurd hz (by decide), fun _ => ⟨fun hz => absurd hz (by decide), fun _ => ⟨fun _ => ⟨isP_in h.2.2.1 hk.1, hq1 _ h' ?_⟩, fun hz => absurd rfl hz⟩⟩⟩⟩⟩⟩⟩⟩
    have m0 := mr.ms (g := 0) (a := 20) (k := o.toNatClampNeg) (μ := μ') (v := v) (by decide)
    rw [e0] at m0
    exact m0
  by_cases h8 : w = 8
  · subst h8
    refine k_X6_set_26 ⟨fun hz => absurd hz (by decide), fun _ => ⟨fun hz => absurd hz (by decide), fun _ => ⟨fun hz => absurd hz (by decide), fun _ => ⟨fun hz => absurd hz (by decide), fun _ => ⟨fun hz => absurd hz (by decide), fun _ => ⟨fun hz => absurd hz (by decide), fun _ => ⟨fun hz => absurd hz (by decide), fun _ => ⟨fun hz => absurd hz (by decide), fun _ => ⟨isP_in h.2.2.1 hk.1, hq1 _ h' ?_⟩⟩⟩⟩⟩⟩⟩⟩⟩
    have m0 := mr.ms (g := 0) (a := 21) (k := o.toNatClampNeg) (μ := μ') (v := v) (by decide)
    rw [e0] at m0
    exact m0
  exfalso
  unfold mb at hm
  rw [if_neg h0, if_neg h1, if_neg h2, if_neg h3, if_neg h4, if_neg h5, if_neg h6, if_neg h7, if_neg h8] at hm
  exact hm
/-- tenant -/
theorem p_tenant {x y : Int32} (h : cg μ n e S) (hbad : ¬ ((0 ≤ x ∧ x ≤ 5) ∧ (0 ≤ y ∧ y ≤ 9)) → Q (some (.inl (-2))) μ) (hf : (0 ≤ x ∧ x ≤ 5) → (0 ≤ y ∧ y ≤ 9) → gP S = 8 → Q (some (.inl (-4))) μ) (hq : (0 ≤ x ∧ x ≤ 5) → (0 ≤ y ∧ y ≤ 9) → gP S < 8 → ∀ μ', mr 0 μ μ' (y_come S x y) → Q (some (.inl (nI (gP S)))) μ') : si_W sc (d + 1) 81 0 [some (.inr (.inr (6, 0))), some (.inl x), some (.inl y)] [] μ Q := by
  refine k_X6_tenant_0 (p_isWithin (k_X6_tenant_6 ⟨fun hz => hbad (fun a => bi_0.mp hz a.1), fun hz => p_isWithin (k_X6_tenant_16 ⟨fun hy => ?_, fun hy => hbad (fun a => bi_0.mp hy a.2)⟩)⟩))
  have hx := Classical.byContradiction fun a => hz (bi_0.mpr a)
  have hy := Classical.byContradiction fun a => hy (bi_0.mpr a)
  refine p_comes h.P h.2.2.1.1 (fun e8 => k_X6_tenant_31 (hf hx hy e8)) (fun l8 μ' m' => k_X6_tenant_31 (hq hx hy l8 μ' ?_))
  rw [← h.2.1]
  exact m'
theorem bi_n {p : Prop} [Decidable p] (h : ¬ bi p = 0) : p := Classical.byContradiction fun a => h (bi_0.mpr a)
/-- give -/
theorem p_give {o x : Int32} (h : cg μ n e S) (hbad : ¬ (isP S o ∧ (0 ≤ x ∧ x ≤ 5)) → Q (some (.inl (-2))) μ) (hs : isP S o → (0 ≤ x ∧ x ≤ 5) → S 18 o.toNatClampNeg ≠ -1 → Q (some (.inl (-3))) μ) (hf : isP S o → (0 ≤ x ∧ x ≤ 5) → S 18 o.toNatClampNeg = -1 → wI S x.toNatClampNeg ≠ -1 → Q (some (.inl (-4))) μ) (hq : isP S o → (0 ≤ x ∧ x ≤ 5) → S 18 o.toNatClampNeg = -1 → wI S x.toNatClampNeg = -1 → ∀ μ', mr 0 μ μ' (y_in S o.toNatClampNeg x.toNatClampNeg) → Q (some (.inl x)) μ') : si_W sc (d + 2) 83 0 [some (.inr (.inr (6, 0))), some (.inl o), some (.inl x)] [] μ Q := by
  refine k_X6_give_0 (p_isP h (k_X6_give_8 ⟨fun hz => hbad (fun a => bc_0 hz a.1), fun hz => p_isStrip (k_X6_give_15 ⟨fun hy => ⟨isP_in h.2.2.1 (bc_n hz), fun hw => ?_, fun hw => hs (bc_n hz) (bi_n hy) ?_⟩, fun hy => hbad (fun a => bi_0.mp hy a.2)⟩)⟩))
  · rw [h.r (by decide)] at hw
    have ho := bc_n hz
    have hx := bi_n hy
    obtain ⟨p, hp, rfl⟩ := isP_n h.2.2.1 ho
    obtain ⟨s, hs6, rfl⟩ := st_n hx
    have h8 := h.2.2.1.1
    refine p_holder h.P h.2.2.1.1 ?_
    rw [h.r (by decide)]
    have ew : g_find (S 18) (nI s) (gP S) 0 = wI S (nI s).toNatClampNeg := by rw [nI_c (by omega)]; rfl
    rw [ew]
    refine k_X6_give_45 ⟨fun hn => p_moveIn (by omega) ?_, fun hn => hf ho hx hw hn⟩
    intro μ' m'
    refine k_X6_give_61 (hq ho hx hw hn μ' ?_)
    rw [h.2.1] at m'
    rw [nI_c (by omega), nI_c (by omega)]
    exact m'
  · rw [h.r (by decide)] at hw; exact hw
/-- strikeOff -/
theorem p_strikeOff {o : Int32} (h : cg μ n e S) (hbad : ¬ isP S o → Q (some (.inl (-2))) μ) (hs : isP S o → S 18 o.toNatClampNeg = -5 → Q (some (.inl (-3))) μ) (hq : isP S o → S 18 o.toNatClampNeg ≠ -5 → ∀ μ', mr 0 μ μ' (upS S 18 o.toNatClampNeg (-5)) → Q (some (.inl (S 18 o.toNatClampNeg))) μ') : si_W sc (d + 1) 84 0 [some (.inr (.inr (6, 0))), some (.inl o), none] [] μ Q := by
  refine k_X6_strikeOff_0 (p_isP h (k_X6_strikeOff_8 ⟨fun hz => ⟨isP_in h.2.2.1 (bc_n hz), fun hw => ⟨isP_in h.2.2.1 (bc_n hz), ?_⟩, fun hw => hs (bc_n hz) ?_⟩, fun hz => hbad (bc_0 hz)⟩))
  · rw [h.r (by decide)] at hw ⊢
    refine hq (bc_n hz) hw _ ?_
    have m0 := mr.ms (g := 0) (a := 18) (k := o.toNatClampNeg) (μ := μ) (v := -5) (by decide)
    rw [h.2.1] at m0
    exact m0
  · rw [h.r (by decide)] at hw; exact hw
theorem p_list {x : Int32} (h : cg μ n e S) (hq : Q (some (.inl (y_ls S x (gP S) 0))) μ) : si_W sc (d + 3) 85 0 [some (.inr (.inr (6, 0))), some (.inl x)] [] μ Q := by
  refine k_X6_list_0 (p_listed h.P h.2.2.1.1 (k_X6_list_8 ?_))
  rw [h.2.1]; exact hq
end PM
