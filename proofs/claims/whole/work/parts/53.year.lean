/-! a year, strip by strip and one by one: the garden g as a table S of its rows -/
def gt (a : Nat) : Bool := Nat.beq a 2 || (Nat.ble 14 a && Nat.ble a 21)
/-- the garden g of the memory -/
def vw (μ : si_Mm) (g : Nat) : Nat → Nat → Int32 := fun a => if gt a = true then μ.1 a g else fun _ => 0
def upS (S : Nat → Nat → Int32) (a k : Nat) (v : Int32) : Nat → Nat → Int32 := fun a' k' => if a' = a ∧ k' = k then v else S a' k'
/-- the garden g has become S; but for the scratch rows nothing else has changed -/
def mr (g : Nat) (μ μ' : si_Mm) (S : Nat → Nat → Int32) : Prop := vw μ' g = S ∧ (∀ a i, ¬ (gt a = true ∧ i = g) → a ≠ 12 → a ≠ 13 → μ'.1 a i = μ.1 a i) ∧ μ'.2 = μ.2
theorem vw_at {μ : si_Mm} {g a : Nat} (h : gt a = true) : vw μ g a = μ.1 a g := by unfold vw; rw [if_pos h]
theorem vw_ms {μ : si_Mm} {g a k : Nat} {v : Int32} (h : gt a = true) : vw (si_ms μ a g k v) g = upS (vw μ g) a k v := by
  funext a' k'
  unfold vw upS
  by_cases e : a' = a
  · subst e
    simp only [h, if_true, ms_eq, true_and]
  · by_cases h' : gt a' = true
    · simp [h', ms_eq, e]
    · simp [h', e]
theorem mr.rf {g : Nat} {μ : si_Mm} : mr g μ μ (vw μ g) := ⟨rfl, fun _ _ _ _ _ => rfl, rfl⟩
theorem mr.ms {g a k : Nat} {μ : si_Mm} {v : Int32} (h : gt a = true) : mr g μ (si_ms μ a g k v) (upS (vw μ g) a k v) := ⟨vw_ms h, fun a' i hn _ _ => si_ms_ne μ k v (fun q => hn (by cases q; exact ⟨h, rfl⟩)), rfl⟩
theorem mr.tr {g : Nat} {μ1 μ2 μ3 : si_Mm} {S2 S3 : Nat → Nat → Int32} (h : mr g μ1 μ2 S2) (q : mr g μ2 μ3 S3) : mr g μ1 μ3 S3 := ⟨q.1, fun a i h1 h2 h3 => (q.2.1 a i h1 h2 h3).trans (h.2.1 a i h1 h2 h3), q.2.2.trans h.2.2⟩
theorem gt_s {a : Nat} (h : gt a = true) : a ≠ 12 ∧ a ≠ 13 := by
  refine ⟨fun e => ?_, fun e => ?_⟩ <;> rw [e] at h <;> exact absurd h (by decide)
theorem mr.sq {g : Nat} {μ1 μ2 : si_Mm} (h : sq2 μ1 μ2) : mr g μ1 μ2 (vw μ1 g) := by
  refine ⟨?_, fun a i _ h2 h3 => h.1 a i h2 h3, h.2⟩
  funext a
  unfold vw
  by_cases e : gt a = true
  · rw [if_pos e, if_pos e]; exact h.1 a g (gt_s e).1 (gt_s e).2
  · rw [if_neg e, if_neg e]
theorem mr.bk {g n : Nat} {e : Nat → Nat} {μ μ' : si_Mm} {S : Nat → Nat → Int32} (h : mr g μ μ' S) (hb : bk μ n e) : bk μ' n e := ⟨hb.1, fun k hk => by rw [h.2.1 _ _ (fun q => absurd q.1 (by decide)) (by decide) (by decide)]; exact hb.2.1 k hk, hb.2.2⟩
theorem mr.cd {g : Nat} {μ μ' : si_Mm} {S : Nat → Nat → Int32} (h : mr g μ μ' S) : μ'.1 10 0 = μ.1 10 0 := h.2.1 _ _ (fun q => absurd q.1 (by decide)) (by decide) (by decide)
theorem nv_vw {μ : si_Mm} {g s : Nat} {o : Option Nat} : nv (fun a => μ.1 a g) s o = nv (vw μ g) s o := by
  funext k
  unfold nv
  rw [vw_at (a := 17) (by decide), vw_at (a := 2) (by decide), vw_at (a := 14) (by decide), vw_at (a := 19) (by decide), vw_at (a := 20) (by decide)]
/-- the first of n places from i on, at which f is x -/
def g_fo (f : Nat → Int32) (x : Int32) : Nat → Nat → Option Nat
  | 0, _ => none
  | n + 1, i => if f i = x then some i else g_fo f x n (i + 1)
theorem g_find_o (f : Nat → Int32) (x : Int32) : ∀ (n i : Nat), g_find f x n i = (match g_fo f x n i with | some k => nI k | none => -1)
  | 0, _ => rfl
  | n + 1, i => by
    unfold g_find g_fo
    by_cases e : f i = x
    · rw [if_pos e, if_pos e]
    · rw [if_neg e, if_neg e]; exact g_find_o f x n (i + 1)
theorem g_fo_lt {f : Nat → Int32} {x : Int32} : ∀ {n i k : Nat}, g_fo f x n i = some k → i ≤ k ∧ k < i + n ∧ f k = x
  | 0, _, _, h => by cases h
  | n + 1, i, k, h => by
    unfold g_fo at h
    by_cases e : f i = x
    · rw [if_pos e] at h; cases h; exact ⟨Nat.le_refl _, by omega, e⟩
    · rw [if_neg e] at h
      have := g_fo_lt h
      exact ⟨by omega, by omega, this.2.2⟩
def gP (S : Nat → Nat → Int32) : Nat := (S 2 6).toNatClampNeg
def gR (S : Nat → Nat → Int32) : Nat := (S 2 5).toNatClampNeg
/-- who has strip s -/
def who (S : Nat → Nat → Int32) (s : Nat) : Option Nat := g_fo (S 18) (nI s) (gP S) 0
def mx0 (x : Int32) : Int32 := if 0 < x then x else 0
def mn (m x : Int32) : Int32 := if x < m then x else m
def y_eff (S : Nat → Nat → Int32) (p : Nat) (v : Int32) : Int32 :=
  if S 16 p = 1 then 2 * v else if S 16 p = 2 then (if S 20 p ≤ 0 then 0 else v) else if S 16 p = 3 then mx0 (2 * v - S 19 p / 4)
  else if S 16 p = 4 then S 17 p + (if S 20 p ≤ 0 then 0 else v) else if S 16 p = 5 then mx0 (v - 3) else v
def y_rem (S : Nat → Nat → Int32) (p : Nat) (v : Int32) : Prop :=
  if S 16 p = 1 then S 19 p < 2 * v else if S 16 p = 3 then S 19 p < 30 else if S 16 p = 4 then (S 19 p < v ∨ 6 < S 17 p) else if S 16 p = 5 then True else S 19 p < v
noncomputable def y_remI (S : Nat → Nat → Int32) (p : Nat) (v : Int32) : Int32 := @bi (y_rem S p v) (Classical.propDecidable _)
section PY
variable {sc : si_Sc} {d g : Nat} {μ : si_Mm} {Q : si_Po}
theorem p_effort {p : Nat} {v : Int32} (hp : p < 8) (hq : Q (some (.inl (y_eff (vw μ g) p v))) μ) : si_W sc d 29 0 [some (.inr (.inr (2, g))), some (.inl (nI p)), some (.inl v), none] [] μ Q := by
  have cp : (nI p).toNatClampNeg = p := nI_c (by omega)
  have hin : vp_in (nI p) 8 := vp_in_nI hp (by omega)
  unfold y_eff at hq
  rw [vw_at (a := 16) (by decide), vw_at (a := 20) (by decide), vw_at (a := 19) (by decide), vw_at (a := 17) (by decide)] at hq
  have key : ∀ w : Int32, w = (if μ.1 20 g p ≤ 0 then 0 else v) → si_W sc d 29 14 [some (.inr (.inr (2, g))), some (.inl (nI p)), some (.inl v), none] [.inl w] μ Q := by
    intro w hw
    refine k_X2_effort_14 ⟨hin, fun h1 => ?_, fun h1 => ⟨fun h2 => ?_, fun h2 => ⟨fun h3 => ⟨hin, by decide, ?_⟩, fun h3 => ⟨fun h4 => ⟨hin, ?_⟩, fun h4 => ⟨fun h5 => ?_, fun h5 => ?_⟩⟩⟩⟩⟩
    · rw [cp] at h1; rw [if_pos h1] at hq; exact hq
    · rw [cp] at h1 h2; rw [if_neg h1, if_pos h2, ← hw] at hq; exact hq
    · rw [cp] at h1 h2 h3 ⊢; rw [if_neg h1, if_neg h2, if_pos h3] at hq; exact hq
    · rw [cp] at h1 h2 h3 h4 ⊢; rw [if_neg h1, if_neg h2, if_neg h3, if_pos h4, ← hw] at hq; exact hq
    · rw [cp] at h1 h2 h3 h4 h5; rw [if_neg h1, if_neg h2, if_neg h3, if_neg h4, if_pos h5] at hq; exact hq
    · rw [cp] at h1 h2 h3 h4 h5; rw [if_neg h1, if_neg h2, if_neg h3, if_neg h4, if_neg h5] at hq; exact hq
  refine k_X2_effort_0 ⟨hin, fun h => key 0 ?_, fun h => key v ?_⟩
  · rw [cp] at h; rw [if_pos h]
  · rw [cp] at h; rw [if_neg h]
theorem y_remI_t {S : Nat → Nat → Int32} {p : Nat} {v : Int32} (h : y_rem S p v) : y_remI S p v = 1 := @bi_t _ (Classical.propDecidable _) h
theorem y_remI_f {S : Nat → Nat → Int32} {p : Nat} {v : Int32} (h : ¬ y_rem S p v) : y_remI S p v = 0 := @bi_f _ (Classical.propDecidable _) h
theorem p_remains {p : Nat} {v : Int32} (hp : p < 8) (hq : Q (some (.inl (y_remI (vw μ g) p v))) μ) : si_W sc d 30 0 [some (.inr (.inr (2, g))), some (.inl (nI p)), some (.inl v)] [] μ Q := by
  have cp : (nI p).toNatClampNeg = p := nI_c (by omega)
  have hin : vp_in (nI p) 8 := vp_in_nI hp (by omega)
  have ht : y_rem (vw μ g) p v → Q (some (.inl 1)) μ := fun h => by rw [y_remI_t h] at hq; exact hq
  have hf : ¬ y_rem (vw μ g) p v → Q (some (.inl 0)) μ := fun h => by rw [y_remI_f h] at hq; exact hq
  have e : y_rem (vw μ g) p v = (if μ.1 16 g p = 1 then μ.1 19 g p < 2 * v else if μ.1 16 g p = 3 then μ.1 19 g p < 30 else if μ.1 16 g p = 4 then (μ.1 19 g p < v ∨ 6 < μ.1 17 g p) else if μ.1 16 g p = 5 then True else μ.1 19 g p < v) := by
    unfold y_rem
    rw [vw_at (a := 16) (by decide), vw_at (a := 19) (by decide), vw_at (a := 17) (by decide)]
  rw [e] at ht hf
  refine k_X2_remains_0 ⟨hin, fun h1 => ⟨hin, fun c => ⟨Or.inl rfl, hf ?_⟩, fun c => ⟨Or.inr rfl, ht ?_⟩⟩, fun h1 => ⟨fun h2 => ⟨hin, fun c => ⟨Or.inl rfl, hf ?_⟩, fun c => ⟨Or.inr rfl, ht ?_⟩⟩, fun h2 => ⟨fun h3 => ⟨hin, fun c => ⟨Or.inl rfl, hf ?_⟩, fun c => ⟨Or.inr rfl, ht ?_⟩⟩, fun h3 => ⟨fun h4 => ⟨hin, fun c => k_X2_remains_96 ⟨Or.inr rfl, ht ?_⟩, fun c => ⟨hin, fun c2 => ⟨Or.inl rfl, hf ?_⟩, fun c2 => k_X2_remains_96 ⟨Or.inr rfl, ht ?_⟩⟩⟩, fun h4 => ⟨fun h5 => ⟨Or.inr rfl, ht ?_⟩, fun h5 => ⟨hin, fun c => ⟨Or.inl rfl, hf ?_⟩, fun c => ⟨Or.inr rfl, ht ?_⟩⟩⟩⟩⟩⟩⟩
  all_goals try rw [cp] at h1
  all_goals try rw [cp] at h2
  all_goals try rw [cp] at h3
  all_goals try rw [cp] at h4
  all_goals try rw [cp] at h5
  all_goals try rw [cp] at c
  all_goals try rw [cp] at c2
  · rw [if_pos h1]; exact i_nlt.mpr c
  · rw [if_pos h1]; exact i_nle.mp c
  · rw [if_neg h1, h2, if_neg (by decide), if_neg (by decide), if_neg (by decide)]; exact i_nlt.mpr c
  · rw [if_neg h1, h2, if_neg (by decide), if_neg (by decide), if_neg (by decide)]; exact i_nle.mp c
  · rw [if_neg h1, if_pos h3]; exact i_nlt.mpr c
  · rw [if_neg h1, if_pos h3]; exact i_nle.mp c
  · rw [if_neg h1, if_neg h3, if_pos h4]; exact Or.inl c
  · rw [if_neg h1, if_neg h3, if_pos h4]; exact fun q => q.elim c (i_nlt.mpr c2)
  · rw [if_neg h1, if_neg h3, if_pos h4]; exact Or.inr (i_nle.mp c2)
  · rw [if_neg h1, if_neg h3, if_neg h4, if_pos h5]; trivial
  · rw [if_neg h1, if_neg h3, if_neg h4, if_neg h5]; exact i_nlt.mpr c
  · rw [if_neg h1, if_neg h3, if_neg h4, if_neg h5]; exact i_nle.mp c
theorem p_wither {s : Nat} {v : Int32} (hs : s < 6) (hq : Q none (si_ms μ 14 g s (mx0 (μ.1 14 g s - v)))) : si_W sc d 31 0 [some (.inr (.inr (2, g))), some (.inl (nI s)), some (.inl v)] [] μ Q := by
  have cs : (nI s).toNatClampNeg = s := nI_c (by omega)
  refine k_X2_wither_0 ⟨vp_in_nI hs (by omega), vp_in_nI hs (by omega), ?_⟩
  rw [cs]; exact hq
theorem p_moveIn {p s : Nat} (hp : p < 8) (hq : ∀ μ', mr g μ μ' (upS (upS (upS (vw μ g) 18 p (nI s)) 19 p 0) 20 p 0) → Q none μ') : si_W sc d 17 0 [some (.inr (.inr (2, g))), some (.inl (nI p)), some (.inl (nI s))] [] μ Q := by
  have cp : (nI p).toNatClampNeg = p := nI_c (by omega)
  have hin : vp_in (nI p) 8 := vp_in_nI hp (by omega)
  refine k_X2_moveIn_0 ⟨hin, hin, hin, hq _ ?_⟩
  rw [cp, ← vw_ms (by decide), ← vw_ms (by decide)]
  exact ((mr.ms (by decide)).tr (mr.ms (by decide))).tr (mr.ms (by decide))
/-- one who waits does so a year more -/
def y_wait (S : Nat → Nat → Int32) (p : Nat) : Nat → Nat → Int32 := if S 18 p = -1 then upS S 21 p (mn 999 (S 21 p + 1)) else S
theorem p_waitOn {p : Nat} (hp : p < 8) (hq : ∀ μ', mr g μ μ' (y_wait (vw μ g) p) → Q none μ') : si_W sc d 34 0 [some (.inr (.inr (2, g))), some (.inl (nI p))] [] μ Q := by
  have cp : (nI p).toNatClampNeg = p := nI_c (by omega)
  have hin : vp_in (nI p) 8 := vp_in_nI hp (by omega)
  unfold y_wait at hq
  rw [vw_at (a := 18) (by decide), vw_at (a := 21) (by decide)] at hq
  refine k_X2_waitOn_0 ⟨hin, fun h => ?_, fun h => ⟨hin, hin, ?_⟩⟩
  · rw [cp] at h; rw [if_neg h] at hq; exact hq _ mr.rf
  · rw [cp] at h ⊢; rw [if_pos h] at hq; exact hq _ (mr.ms (by decide))
end PY
