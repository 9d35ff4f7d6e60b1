/-! warnOrLeave, the list's first, handOut -/
def y_warn1 (S : Nat → Nat → Int32) (p s : Nat) : Nat → Nat → Int32 := if S 2 3 ≤ S 14 s then S else upS S 20 p (mn 9 (S 20 p + 1))
noncomputable def y_warn2 (V : Nat → Nat → (Nat → Int32) → Int32) (S : Nat → Nat → Int32) (p s : Nat) : Nat → Nat → Int32 :=
  if S 20 p < S 2 4 then
    (if y_remI (upS S 19 p (mn 999 (S 19 p + 1))) p (V (gR S) 2 (nv (upS S 19 p (mn 999 (S 19 p + 1))) s (some p))) = 0 then upS (upS S 19 p (mn 999 (S 19 p + 1))) 18 p (-5) else upS S 19 p (mn 999 (S 19 p + 1)))
  else upS S 18 p (-5)
noncomputable def y_warn (V : Nat → Nat → (Nat → Int32) → Int32) (S : Nat → Nat → Int32) (p s : Nat) : Nat → Nat → Int32 := y_warn2 V (y_warn1 S p s) p s
def ahead (S : Nat → Nat → Int32) (p q : Nat) : Prop := S 21 q < S 21 p ∨ (S 21 p = S 21 q ∧ p < q)
def bearsP (S : Nat → Nat → Int32) (p : Nat) : Prop := if S 16 p = 1 then False else if S 16 p = 3 then False else if S 16 p = 5 then S 17 p - S 17 p / 2 * 2 = 1 else True
noncomputable def bc (p : Prop) : Int32 := @bi p (Classical.propDecidable p)
theorem bc_t {p : Prop} (h : p) : bc p = 1 := @bi_t _ (Classical.propDecidable _) h
theorem bc_f {p : Prop} (h : ¬ p) : bc p = 0 := @bi_f _ (Classical.propDecidable _) h
/-- who takes the strip s: the first of those who may, beyond the one found so far -/
def y_ok (S : Nat → Nat → Int32) (s i : Nat) (o : Option Nat) : Prop := S 18 i = -1 ∧ (S 15 s = 0 ∨ bearsP S i) ∧ (match o with | none => True | some q => ahead S i q)
noncomputable def y_pk (S : Nat → Nat → Int32) (s i : Nat) (o : Option Nat) : Option Nat := @ite _ (y_ok S s i o) (Classical.propDecidable _) (some i) o
noncomputable def y_first (S : Nat → Nat → Int32) (s : Nat) : Nat → Nat → Option Nat → Option Nat
  | 0, _, o => o
  | n + 1, i, o => y_first S s n (i + 1) (y_pk S s i o)
theorem y_pk_t {S : Nat → Nat → Int32} {s i : Nat} {o : Option Nat} (h : y_ok S s i o) : y_pk S s i o = some i := if_pos h
theorem y_pk_f {S : Nat → Nat → Int32} {s i : Nat} {o : Option Nat} (h : ¬ y_ok S s i o) : y_pk S s i o = o := if_neg h
section PF
variable {sc : si_Sc} {d g : Nat} {μ : si_Mm} {Q : si_Po}
theorem p_isAhead {p q : Nat} (hp : p < 8) (hq8 : q < 8) (hq : Q (some (.inl (bc (ahead (vw μ g) p q)))) μ) : si_W sc d 23 0 [some (.inr (.inr (2, g))), some (.inl (nI p)), some (.inl (nI q))] [] μ Q := by
  have cp : (nI p).toNatClampNeg = p := nI_c (by omega)
  have cq : (nI q).toNatClampNeg = q := nI_c (by omega)
  have ip : vp_in (nI p) 8 := vp_in_nI hp (by omega)
  have iq : vp_in (nI q) 8 := vp_in_nI hq8 (by omega)
  have e : ahead (vw μ g) p q ↔ (μ.1 21 g q < μ.1 21 g p ∨ (μ.1 21 g p = μ.1 21 g q ∧ p < q)) := by
    unfold ahead
    rw [vw_at (a := 21) (by decide)]
  refine k_X2_isAhead_0 ⟨ip, iq, fun h => ⟨Or.inr rfl, ?_⟩, fun h => ⟨ip, iq, fun h2 => ⟨Or.inl rfl, ?_⟩, fun h2 => ⟨fun h3 => ⟨Or.inl rfl, ?_⟩, fun h3 => ⟨Or.inr rfl, ?_⟩⟩⟩⟩
  · rw [cp, cq] at h
    rw [bc_t (e.mpr (Or.inl h))] at hq; exact hq
  · rw [cp, cq] at h h2
    rw [bc_f (fun a => (e.mp a).elim h (fun b => h2 b.1))] at hq; exact hq
  · rw [cp, cq] at h h2
    rw [nI_le8 (by omega) (by omega)] at h3
    rw [bc_f (fun a => (e.mp a).elim h (fun b => by omega))] at hq; exact hq
  · rw [cp, cq] at h h2
    rw [nI_le8 (by omega) (by omega)] at h3
    rw [bc_t (e.mpr (Or.inr ⟨h2, by omega⟩))] at hq; exact hq
theorem p_bears {p : Nat} (hp : p < 8) (hq : Q (some (.inl (bc (bearsP (vw μ g) p)))) μ) : si_W sc d 26 0 [some (.inr (.inr (2, g))), some (.inl (nI p))] [] μ Q := by
  have cp : (nI p).toNatClampNeg = p := nI_c (by omega)
  have ip : vp_in (nI p) 8 := vp_in_nI hp (by omega)
  have e : bearsP (vw μ g) p = (if μ.1 16 g p = 1 then False else if μ.1 16 g p = 3 then False else if μ.1 16 g p = 5 then μ.1 17 g p - μ.1 17 g p / 2 * 2 = 1 else True) := by
    unfold bearsP
    rw [vw_at (a := 16) (by decide), vw_at (a := 17) (by decide)]
  have ht : bearsP (vw μ g) p → Q (some (.inl 1)) μ := fun h => by rw [bc_t h] at hq; exact hq
  have hf : ¬ bearsP (vw μ g) p → Q (some (.inl 0)) μ := fun h => by rw [bc_f h] at hq; exact hq
  rw [e] at ht hf
  refine k_X2_bears_0 ⟨ip, fun h1 => ⟨Or.inl rfl, hf ?_⟩, fun h1 => ⟨fun h2 => ⟨Or.inr rfl, ht ?_⟩, fun h2 => ⟨fun h3 => ⟨Or.inl rfl, hf ?_⟩, fun h3 => ⟨fun h4 => ⟨Or.inr rfl, ht ?_⟩, fun h4 => ⟨fun h5 => ⟨ip, by decide, fun c => ⟨Or.inl rfl, hf ?_⟩, fun c => ⟨Or.inr rfl, ht ?_⟩⟩, fun h5 => ⟨Or.inr rfl, ht ?_⟩⟩⟩⟩⟩⟩
  all_goals try rw [cp] at h1
  all_goals try rw [cp] at h2
  all_goals try rw [cp] at h3
  all_goals try rw [cp] at h4
  all_goals try rw [cp] at h5
  all_goals try rw [cp] at c
  · rw [if_pos h1]; exact id
  · rw [h2, if_neg (by decide), if_neg (by decide), if_neg (by decide)]; trivial
  · rw [if_neg h1, if_pos h3]; exact id
  · rw [h4, if_neg (by decide), if_neg (by decide), if_neg (by decide)]; trivial
  · rw [if_neg h1, if_neg h3, if_pos h5]; exact c
  · rw [if_neg h1, if_neg h3, if_pos h5]; exact c
  · rw [if_neg h1, if_neg h3, if_neg h5]; trivial
def oI (o : Option Nat) : Int32 := match o with
  | none => -1
  | some p => nI p
set_option maxHeartbeats 2000000 in
theorem p_first_lp {P s : Nat} (hP : μ.1 2 g 6 = nI P) (hP8 : P ≤ 8) (hs : s < 6) : ∀ (n k : Nat) (o : Option Nat), k + n = P → (∀ q, o = some q → q < P) → Q (some (.inl (oI (y_first (vw μ g) s n k o)))) μ → si_W sc (d + 1) 27 4 [some (.inr (.inr (2, g))), some (.inl (nI s)), some (.inl (oI o)), some (.inl (nI k))] [] μ Q := by
  have cs : (nI s).toNatClampNeg = s := nI_c (by omega)
  intro n
  induction n with
  | zero =>
    intro k o hk ho hq
    refine k_X2_firstWhoTakes_4 ⟨fun _ => hq, fun h => absurd ?_ h⟩
    rw [hP, nI_le8 (by omega) (by omega)]; omega
  | succ n ih =>
    intro k o hk ho hq
    have hc : (nI k).toNatClampNeg = k := nI_c (by omega)
    rw [y_first] at hq
    have no : ¬ y_ok (vw μ g) s k o → si_W sc (d + 1) 27 4 [some (.inr (.inr (2, g))), some (.inl (nI s)), some (.inl (oI o)), some (.inl (nI k + 1))] [] μ Q := by
      intro hn
      rw [y_pk_f hn] at hq
      rw [nI_1]
      exact ih (k + 1) o (by omega) ho hq
    have yes : y_ok (vw μ g) s k o → si_W sc (d + 1) 27 4 [some (.inr (.inr (2, g))), some (.inl (nI s)), some (.inl (nI k)), some (.inl (nI k + 1))] [] μ Q := by
      intro hn
      rw [y_pk_t hn] at hq
      rw [nI_1]
      exact ih (k + 1) (some k) (by omega) (fun q hq => by cases hq; omega) hq
    have ev : vw μ g 18 k = μ.1 18 g k := by rw [vw_at (by decide)]
    have ew : vw μ g 15 s = μ.1 15 g s := by rw [vw_at (by decide)]
    have last : μ.1 18 g k = -1 → (vw μ g 15 s = 0 ∨ bearsP (vw μ g) k) → ((oI o = -1 → si_W sc (d + 1) 27 4 [some (.inr (.inr (2, g))), some (.inl (nI s)), some (.inl (nI k)), some (.inl (nI k + 1))] [] μ Q) ∧ (¬ oI o = -1 → si_W sc d 23 0 [some (.inr (.inr (2, g))), some (.inl (nI k)), some (.inl (oI o))] [] μ (fun rv μq => si_W sc (d + 1) 27 50 [some (.inr (.inr (2, g))), some (.inl (nI s)), some (.inl (oI o)), some (.inl (nI k))] (si_rt rv []) μq Q))) := by
      intro hpl hwb
      match o, ho, no, yes with
      | none, ho, no, yes => exact ⟨fun _ => yes ⟨ev.trans hpl, hwb, trivial⟩, fun h => absurd rfl h⟩
      | some q, ho, no, yes =>
        have hq8 := ho q rfl
        refine ⟨fun h => absurd h (nI_neg1 (by omega)), fun _ => ?_⟩
        refine p_isAhead (q := q) (by omega) (by omega) ?_
        refine k_X2_firstWhoTakes_50 ⟨fun h => no (fun a => ?_), fun h => yes ⟨ev.trans hpl, hwb, ?_⟩⟩
        · rw [bc_t a.2.2] at h; exact absurd h (by decide)
        · refine Classical.byContradiction fun a => ?_
          exact h (bc_f a)
    refine k_X2_firstWhoTakes_4 ⟨fun h => ?_, fun _ => ⟨nI_8 hP8 (by omega), fun h => no (fun a => ?_), fun h => ⟨vp_in_nI hs (by omega), fun hw => ?_, fun hw => ?_⟩⟩⟩
    · rw [hP, nI_le8 (by omega) (by omega)] at h; omega
    · rw [hc] at h; exact h (ev.symm.trans a.1)
    · rw [hc] at h
      rw [cs] at hw
      exact last h (Or.inl (ew.trans hw))
    · rw [hc] at h
      rw [cs] at hw
      refine p_bears (by omega) ?_
      refine k_X2_firstWhoTakes_36 ⟨fun hz => no (fun a => ?_), fun hz => last h (Or.inr ?_)⟩
      · rcases a.2.1 with a1 | a1
        · exact hw (ew.symm.trans a1)
        · rw [bc_t a1] at hz; exact absurd hz (by decide)
      · refine Classical.byContradiction fun a => ?_
        exact hz (bc_f a)
theorem p_firstWhoTakes {P s : Nat} (hP : μ.1 2 g 6 = nI P) (hP8 : P ≤ 8) (hs : s < 6) (hq : Q (some (.inl (oI (y_first (vw μ g) s P 0 none)))) μ) : si_W sc (d + 1) 27 0 [some (.inr (.inr (2, g))), some (.inl (nI s)), none, none] [] μ Q :=
  k_X2_firstWhoTakes_0 (p_first_lp hP hP8 hs P 0 none (by omega) (fun q h => by cases h) hq)
end PF
