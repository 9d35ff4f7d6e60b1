/-! passYear -/
abbrev gS : Type := Nat → Nat → Int32
def y_l (f : gS → Nat → gS) : Nat → Nat → gS → gS
  | 0, _, S => S
  | n + 1, k, S => y_l f n (k + 1) (f S k)
/-- the strip that one has -/
def stO (S : gS) (p : Nat) : Nat := (S 18 p).toNatClampNeg
noncomputable def y_w (V : Nat → Nat → (Nat → Int32) → Int32) (S : gS) (p : Nat) : gS := if 0 ≤ S 18 p then y_warn V S p (stO S p) else S
noncomputable def y_year (V : Nat → Nat → (Nat → Int32) → Int32) (S : gS) : gS :=
  let S4 := y_l y_hand 6 0 (y_l y_wait (gP S) 0 (y_l (y_w V) (gP S) 0 (y_l (y_grow V) 6 0 S)))
  upS S4 2 2 (S4 2 2 + 1)
theorem gP_grow {V : Nat → Nat → (Nat → Int32) → Int32} {S : gS} {s : Nat} : gP (y_grow V S s) = gP S := by
  unfold y_grow y_grow2
  have h1 : gP (y_grow1 V S s) = gP S := gP_up (by decide)
  cases who S s with
  | none => exact h1
  | some p => exact (gP_up (by decide)).trans h1
theorem gP_warn {V : Nat → Nat → (Nat → Int32) → Int32} {S : gS} {p s : Nat} : gP (y_warn V S p s) = gP S := by
  have h1 : gP (y_warn1 S p s) = gP S := by
    unfold y_warn1
    split
    · rfl
    · exact gP_up (by decide)
  unfold y_warn
  generalize y_warn1 S p s = S1 at h1 ⊢
  rw [← h1]
  unfold y_warn2
  split
  · split
    · rw [gP_up (by decide), gP_up (by decide)]
    · rw [gP_up (by decide)]
  · rw [gP_up (by decide)]
theorem gP_w {V : Nat → Nat → (Nat → Int32) → Int32} {S : gS} {p : Nat} : gP (y_w V S p) = gP S := by
  unfold y_w
  split
  · exact gP_warn
  · rfl
theorem gP_wait {S : gS} {p : Nat} : gP (y_wait S p) = gP S := by
  unfold y_wait
  split
  · exact gP_up (by decide)
  · rfl
theorem gP_hand {S : gS} {s : Nat} : gP (y_hand S s) = gP S := by
  unfold y_hand
  cases who S s with
  | some _ => rfl
  | none =>
    cases y_first S s (gP S) 0 none with
    | none => rfl
    | some p =>
      show gP (y_in S p s) = gP S
      unfold y_in
      rw [gP_up (by decide), gP_up (by decide), gP_up (by decide)]
theorem gP_l {f : gS → Nat → gS} (hf : ∀ S k, gP (f S k) = gP S) : ∀ (n k : Nat) (S : gS), gP (y_l f n k S) = gP S
  | 0, _, _ => rfl
  | n + 1, k, S => (gP_l hf n (k + 1) (f S k)).trans (hf S k)
theorem pl_in {S : gS} {n p : Nat} (h : gw S n) (hp : p < gP S) (h0 : 0 ≤ S 18 p) : stO S p < 6 ∧ S 18 p = nI (stO S p) := by
  rcases h.2.2.2.2 p hp with e | e | ⟨s, hs, e⟩
  · rw [e] at h0; exact absurd h0 (by decide)
  · rw [e] at h0; exact absurd h0 (by decide)
  · unfold stO
    rw [e, nI_c (by omega)]
    exact ⟨hs, rfl⟩
theorem gw_w {V : Nat → Nat → (Nat → Int32) → Int32} {S : gS} {n p : Nat} (h : gw S n) : gw (y_w V S p) n := by
  unfold y_w
  split
  · exact gw_warn h
  · exact h
section PP
variable {sc : si_Sc} {d g : Nat} {Q : si_Po} {n : Nat} {e : Nat → Nat} {cd : Nat → Int32}
theorem n6 {k : Nat} (hk : k ≤ 6) : (6 : Int32) ≤ nI k ↔ 6 ≤ k := by
  have e6 : (6 : Int32) = nI 6 := rfl
  rw [e6, nI_le8 (by omega) (by omega)]
theorem p_pass1 : ∀ (m k : Nat) (μ : si_Mm), k + m = 6 → bk μ n e → μ.1 10 0 = cd → gw (vw μ g) n → (∀ μ', mr g μ μ' (y_l (y_grow (y_V cd e)) m k (vw μ g)) → si_W sc (d + 4) 36 21 [some (.inr (.inr (2, g))), some (.inl 0)] [] μ' Q) → si_W sc (d + 4) 36 2 [some (.inr (.inr (2, g))), some (.inl (nI k))] [] μ Q := by
  intro m
  induction m with
  | zero =>
    intro k μ hk hb hcd hw hq
    refine k_X2_passYear_2 ⟨fun _ => hq μ mr.rf, fun h => absurd ((n6 (by omega)).mpr (by omega)) h⟩
  | succ m ih =>
    intro k μ hk hb hcd hw hq
    refine k_X2_passYear_2 ⟨fun h => ?_, fun _ => ?_⟩
    · have := (n6 (by omega)).mp h; omega
    · refine p_growAndTend hb hw (by omega) ?_
      intro μ1 m1
      rw [hcd] at m1
      refine k_X2_passYear_13 ?_
      rw [nI_1]
      refine ih (k + 1) μ1 (by omega) (m1.bk hb) (m1.cd.trans hcd) (by rw [m1.1]; exact gw_grow hw) ?_
      intro μ2 m2
      refine hq μ2 (m1.tr ?_)
      rw [m1.1] at m2
      exact m2
theorem p_pass2 {P : Nat} : ∀ (m k : Nat) (μ : si_Mm), k + m = P → P = gP (vw μ g) → bk μ n e → μ.1 10 0 = cd → gw (vw μ g) n → (∀ μ', mr g μ μ' (y_l (y_w (y_V cd e)) m k (vw μ g)) → si_W sc (d + 4) 36 56 [some (.inr (.inr (2, g))), some (.inl 0)] [] μ' Q) → si_W sc (d + 4) 36 21 [some (.inr (.inr (2, g))), some (.inl (nI k))] [] μ Q := by
  intro m
  induction m with
  | zero =>
    intro k μ hk hP hb hcd hw hq
    have h8 := hw.1
    have h6 := hw.2.1
    rw [vw_at (a := 2) (by decide)] at h6
    refine k_X2_passYear_21 ⟨fun _ => hq μ mr.rf, fun h => absurd ?_ h⟩
    rw [h6, nI_le8 (by omega) (by omega)]; omega
  | succ m ih =>
    intro k μ hk hP hb hcd hw hq
    have h8 := hw.1
    have h6 := hw.2.1
    rw [vw_at (a := 2) (by decide)] at h6
    have ck : (nI k).toNatClampNeg = k := nI_c (by omega)
    have next : ∀ μ1, mr g μ μ1 (y_w (y_V cd e) (vw μ g) k) → si_W sc (d + 4) 36 48 [some (.inr (.inr (2, g))), some (.inl (nI k))] [] μ1 Q := by
      intro μ1 m1
      refine k_X2_passYear_48 ?_
      rw [nI_1]
      refine ih (k + 1) μ1 (by omega) (by rw [m1.1, gP_w]; exact hP) (m1.bk hb) (m1.cd.trans hcd) (by rw [m1.1]; exact gw_w hw) ?_
      intro μ2 m2
      refine hq μ2 (m1.tr ?_)
      rw [m1.1] at m2
      exact m2
    refine k_X2_passYear_21 ⟨fun h => ?_, fun _ => ?_⟩
    · rw [h6, nI_le8 (by omega) (by omega)] at h; omega
    · refine p_hasStrip (by omega) ?_
      refine k_X2_passYear_34 ⟨fun hz => next μ ?_, fun hz => ⟨vp_in_nI (by omega) (by omega), ?_⟩⟩
      · rw [bi_0, ← vw_at (μ := μ) (a := 18) (by decide)] at hz
        unfold y_w
        rw [if_neg hz]
        exact mr.rf
      · have hz0 : 0 ≤ μ.1 18 g k := Classical.byContradiction fun a => hz (bi_0.mpr a)
        rw [← vw_at (μ := μ) (a := 18) (by decide)] at hz0
        have hst := pl_in hw (by omega) hz0
        rw [ck, ← vw_at (μ := μ) (a := 18) (by decide), hst.2]
        refine p_warnOrLeave hb hw (by omega) hst.1 ?_
        intro μ1 m1
        refine next μ1 ?_
        unfold y_w
        rw [if_pos hz0, ← hcd]
        exact m1
theorem p_pass3 {P : Nat} : ∀ (m k : Nat) (μ : si_Mm), k + m = P → P = gP (vw μ g) → gw (vw μ g) n → (∀ μ', mr g μ μ' (y_l y_wait m k (vw μ g)) → si_W sc (d + 4) 36 77 [some (.inr (.inr (2, g))), some (.inl 0)] [] μ' Q) → si_W sc (d + 4) 36 56 [some (.inr (.inr (2, g))), some (.inl (nI k))] [] μ Q := by
  intro m
  induction m with
  | zero =>
    intro k μ hk hP hw hq
    have h8 := hw.1
    have h6 := hw.2.1
    rw [vw_at (a := 2) (by decide)] at h6
    refine k_X2_passYear_56 ⟨fun _ => hq μ mr.rf, fun h => absurd ?_ h⟩
    rw [h6, nI_le8 (by omega) (by omega)]; omega
  | succ m ih =>
    intro k μ hk hP hw hq
    have h8 := hw.1
    have h6 := hw.2.1
    rw [vw_at (a := 2) (by decide)] at h6
    refine k_X2_passYear_56 ⟨fun h => ?_, fun _ => ?_⟩
    · rw [h6, nI_le8 (by omega) (by omega)] at h; omega
    · refine p_waitOn (by omega) ?_
      intro μ1 m1
      refine k_X2_passYear_69 ?_
      rw [nI_1]
      refine ih (k + 1) μ1 (by omega) (by rw [m1.1, gP_wait]; exact hP) (by rw [m1.1]; exact gw_wait hw) ?_
      intro μ2 m2
      refine hq μ2 (m1.tr ?_)
      rw [m1.1] at m2
      exact m2
theorem p_pass4 : ∀ (m k : Nat) (μ : si_Mm), k + m = 6 → gw (vw μ g) n → (∀ μ', mr g μ μ' (y_l y_hand m k (vw μ g)) → Q none (si_ms μ' 2 g 2 (μ'.1 2 g 2 + 1))) → si_W sc (d + 4) 36 77 [some (.inr (.inr (2, g))), some (.inl (nI k))] [] μ Q := by
  intro m
  induction m with
  | zero =>
    intro k μ hk hw hq
    refine k_X2_passYear_77 ⟨fun _ => hq μ mr.rf, fun h => absurd ((n6 (by omega)).mpr (by omega)) h⟩
  | succ m ih =>
    intro k μ hk hw hq
    refine k_X2_passYear_77 ⟨fun h => ?_, fun _ => ?_⟩
    · have := (n6 (by omega)).mp h; omega
    · refine p_handOut hw (by omega) ?_
      intro μ1 m1
      refine k_X2_passYear_88 ?_
      rw [nI_1]
      refine ih (k + 1) μ1 (by omega) (by rw [m1.1]; exact gw_hand (by omega) hw) ?_
      intro μ2 m2
      refine hq μ2 (m1.tr ?_)
      rw [m1.1] at m2
      exact m2
theorem gw_l {f : gS → Nat → gS} {N : Nat} (hf : ∀ S k, k < N → gw S n → gw (f S k) n) : ∀ (m k : Nat) (S : gS), k + m ≤ N → gw S n → gw (y_l f m k S) n
  | 0, _, _, _, h => h
  | m + 1, k, S, hk, h => gw_l hf m (k + 1) (f S k) (by omega) (hf S k (by omega) h)
theorem gw_year {V : Nat → Nat → (Nat → Int32) → Int32} {S : gS} (h : gw S n) : gw (y_year V S) n := by
  unfold y_year
  have h1 := gw_l (f := y_hand) (N := 6) (fun S k hk hS => gw_hand hk hS) 6 0 _ (by omega) (gw_l (f := y_wait) (N := gP S) (fun S k _ hS => gw_wait hS) (gP S) 0 _ (by omega) (gw_l (f := y_w V) (N := gP S) (fun S k _ hS => gw_w (V := V) hS) (gP S) 0 _ (by omega) (gw_l (f := y_grow V) (N := 6) (fun S k _ hS => gw_grow (V := V) hS) 6 0 S (by omega) h)))
  refine gw_of ?_ ?_ (fun p _ => Or.inl ?_) h1
  · unfold upS; rw [if_neg (by decide)]
  · unfold upS; rw [if_neg (by decide)]
  · rw [upS_ne (by decide)]
/-- A YEAR of the garden g -/
theorem p_passYear {μ : si_Mm} (hb : bk μ n e) (hw : gw (vw μ g) n) (hq : ∀ μ', mr g μ μ' (y_year (y_V (μ.1 10 0) e) (vw μ g)) → Q none μ') : si_W sc (d + 4) 36 0 [some (.inr (.inr (2, g))), none] [] μ Q := by
  refine k_X2_passYear_0 ?_
  refine p_pass1 6 0 μ (by omega) hb rfl hw ?_
  intro μ1 m1
  have w1 : gw (vw μ1 g) n := by rw [m1.1]; exact gw_l (N := 6) (fun S k _ hS => gw_grow hS) 6 0 _ (by omega) hw
  have P1 : gP (vw μ1 g) = gP (vw μ g) := by rw [m1.1]; exact gP_l (fun S k => gP_grow) 6 0 _
  refine p_pass2 (P := gP (vw μ g)) (gP (vw μ g)) 0 μ1 (by omega) P1.symm (m1.bk hb) m1.cd w1 ?_
  intro μ2 m2
  have w2 : gw (vw μ2 g) n := by rw [m2.1]; exact gw_l (N := gP (vw μ g)) (fun S k _ hS => gw_w hS) _ 0 _ (by omega) w1
  have P2 : gP (vw μ2 g) = gP (vw μ g) := by rw [m2.1]; exact (gP_l (fun S k => gP_w) _ 0 _).trans P1
  refine p_pass3 (P := gP (vw μ g)) (gP (vw μ g)) 0 μ2 (by omega) P2.symm w2 ?_
  intro μ3 m3
  have w3 : gw (vw μ3 g) n := by rw [m3.1]; exact gw_l (N := gP (vw μ g)) (fun S k _ hS => gw_wait hS) _ 0 _ (by omega) w2
  refine p_pass4 6 0 μ3 (by omega) w3 ?_
  intro μ4 m4
  refine hq _ ?_
  have m5 := ((m1.tr m2).tr (m3.tr m4)).tr (mr.ms (g := g) (a := 2) (k := 2) (μ := μ4) (v := μ4.1 2 g 2 + 1) (by decide))
  rw [← vw_at (μ := μ4) (a := 2) (by decide)] at m5 ⊢
  rw [m4.1, m3.1, m2.1, m1.1] at m5
  unfold y_year
  rw [m4.1, m3.1, m2.1, m1.1]
  exact m5
end PP
