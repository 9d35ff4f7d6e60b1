/-! warnOrLeave, handOut, passYear -/
theorem gw_of {S S' : Nat → Nat → Int32} {n : Nat} (h6 : S' 2 6 = S 2 6) (h5 : S' 2 5 = S 2 5) (hpl : ∀ p, p < gP S → S' 18 p = S 18 p ∨ S' 18 p = -5 ∨ ∃ s, s < 6 ∧ S' 18 p = nI s) (h : gw S n) : gw S' n := by
  have eP : gP S' = gP S := by unfold gP; rw [h6]
  have eR : gR S' = gR S := by unfold gR; rw [h5]
  obtain ⟨a1, a2, a3, a4, a5⟩ := h
  refine ⟨by rw [eP]; exact a1, by rw [eP, h6]; exact a2, by rw [eR]; exact a3, by rw [eR, h5]; exact a4, fun p hp => ?_⟩
  rw [eP] at hp
  rcases hpl p hp with e | e | e
  · rw [e]; exact a5 p hp
  · exact Or.inl e
  · exact Or.inr (Or.inr e)
theorem gw_up {S : Nat → Nat → Int32} {n a k : Nat} {v : Int32} (h : gw S n) (h2 : a ≠ 2) (h18 : a ≠ 18) : gw (upS S a k v) n := gw_of (by rw [upS_ne (fun e => h2 e.symm)]) (by rw [upS_ne (fun e => h2 e.symm)]) (fun p _ => Or.inl (by rw [upS_ne (fun e => h18 e.symm)])) h
theorem gw_pl {S : Nat → Nat → Int32} {n k : Nat} {v : Int32} (h : gw S n) (hv : v = -5 ∨ ∃ s, s < 6 ∧ v = nI s) : gw (upS S 18 k v) n := gw_of (by rw [upS_ne (by decide)]) (by rw [upS_ne (by decide)]) (fun p _ => by
  by_cases e : p = k
  · rw [e, upS_eq]; exact Or.inr hv
  · left
    unfold upS
    rw [if_neg (fun q => e q.2)]) h
theorem gw_grow {V : Nat → Nat → (Nat → Int32) → Int32} {S : Nat → Nat → Int32} {n s : Nat} (h : gw S n) : gw (y_grow V S s) n := by
  unfold y_grow y_grow2
  have h1 : gw (y_grow1 V S s) n := gw_up h (by decide) (by decide)
  cases who S s with
  | none => exact h1
  | some p => exact gw_up h1 (by decide) (by decide)
theorem gw_warn1 {S : Nat → Nat → Int32} {n p s : Nat} (h : gw S n) : gw (y_warn1 S p s) n := by
  unfold y_warn1
  by_cases c : S 2 3 ≤ S 14 s
  · rw [if_pos c]; exact h
  · rw [if_neg c]; exact gw_up h (by decide) (by decide)
theorem gw_warn {V : Nat → Nat → (Nat → Int32) → Int32} {S : Nat → Nat → Int32} {n p s : Nat} (h : gw S n) : gw (y_warn V S p s) n := by
  have h1 := gw_warn1 (p := p) (s := s) h
  unfold y_warn
  generalize y_warn1 S p s = S1 at h1 ⊢
  unfold y_warn2
  by_cases c : S1 20 p < S1 2 4
  · rw [if_pos c]
    have h2 : gw (upS S1 19 p (mn 999 (S1 19 p + 1))) n := gw_up h1 (by decide) (by decide)
    split
    · exact gw_pl h2 (Or.inl rfl)
    · exact h2
  · rw [if_neg c]; exact gw_pl h1 (Or.inl rfl)
theorem gw_wait {S : Nat → Nat → Int32} {n p : Nat} (h : gw S n) : gw (y_wait S p) n := by
  unfold y_wait
  by_cases c : S 18 p = -1
  · rw [if_pos c]; exact gw_up h (by decide) (by decide)
  · rw [if_neg c]; exact h
def y_in (S : Nat → Nat → Int32) (p s : Nat) : Nat → Nat → Int32 := upS (upS (upS S 18 p (nI s)) 19 p 0) 20 p 0
noncomputable def y_hand (S : Nat → Nat → Int32) (s : Nat) : Nat → Nat → Int32 := match who S s with
  | some _ => S
  | none => match y_first S s (gP S) 0 none with
    | none => S
    | some p => y_in S p s
theorem gw_hand {S : Nat → Nat → Int32} {n s : Nat} (hs : s < 6) (h : gw S n) : gw (y_hand S s) n := by
  unfold y_hand
  cases who S s with
  | some _ => exact h
  | none =>
    cases y_first S s (gP S) 0 none with
    | none => exact h
    | some p => exact gw_up (gw_up (gw_pl h (Or.inr ⟨s, hs, rfl⟩)) (by decide) (by decide)) (by decide) (by decide)
theorem y_first_lt {S : Nat → Nat → Int32} {s P : Nat} : ∀ (n i : Nat) (o : Option Nat), i + n ≤ P → (∀ q, o = some q → q < P) → ∀ q, y_first S s n i o = some q → q < P
  | 0, _, o, _, ho, q, h => ho q h
  | n + 1, i, o, hi, ho, q, h => by
    refine y_first_lt n (i + 1) (y_pk S s i o) (by omega) (fun z hz => ?_) q h
    by_cases c : y_ok S s i o
    · rw [y_pk_t c] at hz; cases hz; omega
    · rw [y_pk_f c] at hz; exact ho z hz
section PW
variable {sc : si_Sc} {d g : Nat} {μ : si_Mm} {Q : si_Po}
set_option maxHeartbeats 2000000 in
theorem p_warnOrLeave {n p s : Nat} {e : Nat → Nat} (hb : bk μ n e) (hw : gw (vw μ g) n) (hp : p < gP (vw μ g)) (hs : s < 6) (hq : ∀ μ', mr g μ μ' (y_warn (y_V (μ.1 10 0) e) (vw μ g) p s) → Q none μ') : si_W sc (d + 3) 33 0 [some (.inr (.inr (2, g))), some (.inl (nI p)), some (.inl (nI s))] [] μ Q := by
  have hp8 : p < 8 := Nat.lt_of_lt_of_le hp hw.1
  have cs : (nI s).toNatClampNeg = s := nI_c (by omega)
  have cp : (nI p).toNatClampNeg = p := nI_c (by omega)
  have ip : vp_in (nI p) 8 := vp_in_nI hp8 (by omega)
  have key : ∀ μ1, mr g μ μ1 (y_warn1 (vw μ g) p s) → si_W sc (d + 3) 33 32 [some (.inr (.inr (2, g))), some (.inl (nI p)), some (.inl (nI s))] [] μ1 Q := by
    intro μ1 m1
    have e1 : vw μ1 g = y_warn1 (vw μ g) p s := m1.1
    have w1 : gw (vw μ1 g) n := by rw [e1]; exact gw_warn1 hw
    have eP : gP (vw μ1 g) = gP (vw μ g) := by
      rw [e1]; unfold y_warn1; split
      · rfl
      · exact gP_up (by decide)
    unfold y_warn at hq
    rw [← e1] at hq
    unfold y_warn2 at hq
    refine k_X2_warnOrLeave_32 ⟨ip, fun hlt => ⟨ip, ip, ?_⟩, fun hge => ⟨ip, ?_⟩⟩
    · rw [cp] at hlt ⊢
      rw [← vw_at (μ := μ1) (a := 20) (by decide), ← vw_at (μ := μ1) (a := 2) (by decide)] at hlt
      rw [if_pos hlt] at hq
      have m2 := mr.ms (g := g) (a := 19) (k := p) (μ := μ1) (v := mn 999 (vw μ1 g 19 p + 1)) (by decide)
      rw [vw_at (a := 19) (by decide)] at m2
      have m12 := m1.tr m2
      rw [← vw_at (μ := μ1) (a := 19) (by decide)] at m2 m12 ⊢
      generalize hμ2 : si_ms μ1 19 g p (if vw μ1 g 19 p + 1 < 999 then vw μ1 g 19 p + 1 else 999) = μ2
      have hμ2' : si_ms μ1 19 g p (mn 999 (vw μ1 g 19 p + 1)) = μ2 := hμ2
      rw [hμ2'] at m2 m12
      have e2 : vw μ2 g = upS (vw μ1 g) 19 p (mn 999 (vw μ1 g 19 p + 1)) := m2.1
      rw [← e2] at hq
      have w2 : gw (vw μ2 g) n := by rw [e2]; exact gw_up w1 (by decide) (by decide)
      have eP2 : gP (vw μ2 g) = gP (vw μ g) := by rw [e2, gP_up (by decide)]; exact eP
      have eR2 : gR (vw μ2 g) = gR (vw μ1 g) := by rw [e2, gR_up (by decide)]
      obtain ⟨b1, b2, b3, b4, b5⟩ := w2
      rw [vw_at (a := 2) (by decide)] at b2 b4
      refine p_ask (pn := 2) (tn := gR (vw μ2 g)) (P := gP (vw μ2 g)) (s := s) (o := some p) (m12.bk hb) b3 (by decide) b4 b2 b1 hs ⟨by omega, rfl⟩ ?_
      intro μ3 h3
      have e3 : vw μ3 g = vw μ2 g := (mr.sq h3).1
      have m13 : mr g μ μ3 (vw μ2 g) := m12.tr (mr.sq h3)
      refine k_X2_warnOrLeave_83 (p_remains hp8 ?_)
      rw [nv_vw, m12.cd, eR2, e3]
      have hV : cl (tv (μ.1 10 0) e (gR (vw μ1 g)) 2 (nv (vw μ2 g) s (some p))) = y_V (μ.1 10 0) e (gR (vw μ1 g)) 2 (nv (vw μ2 g) s (some p)) := rfl
      rw [hV]
      refine k_X2_warnOrLeave_86 ⟨fun hz => ?_, fun hz => ⟨ip, ?_⟩⟩
      · rw [if_neg hz] at hq
        exact hq _ m13
      · rw [if_pos hz] at hq
        rw [cp]
        refine hq _ ?_
        have m4 := m13.tr (mr.ms (g := g) (a := 18) (k := p) (μ := μ3) (v := -5) (by decide))
        rw [e3] at m4
        exact m4
    · rw [cp] at hge ⊢
      rw [← vw_at (μ := μ1) (a := 20) (by decide), ← vw_at (μ := μ1) (a := 2) (by decide)] at hge
      rw [if_neg hge] at hq
      exact hq _ (m1.tr (mr.ms (by decide)))
  refine k_X2_warnOrLeave_0 ⟨vp_in_nI hs (by omega), fun h => key μ ?_, fun h => ⟨ip, ip, key _ ?_⟩⟩
  · rw [cs] at h
    unfold y_warn1
    rw [vw_at (a := 2) (by decide), vw_at (a := 14) (by decide), if_pos h]
    exact mr.rf
  · rw [cs] at h
    unfold y_warn1
    rw [vw_at (a := 2) (by decide), vw_at (a := 14) (by decide), if_neg h, cp, vw_at (a := 20) (by decide)]
    exact mr.ms (by decide)
theorem p_handOut {n s : Nat} (hw : gw (vw μ g) n) (hs : s < 6) (hq : ∀ μ', mr g μ μ' (y_hand (vw μ g) s) → Q none μ') : si_W sc (d + 2) 35 0 [some (.inr (.inr (2, g))), some (.inl (nI s)), none] [] μ Q := by
  obtain ⟨hP8, hP, hR, hRr, hpl⟩ := hw
  rw [vw_at (a := 2) (by decide)] at hP
  refine k_X2_handOut_0 (p_holder hP hP8 ?_)
  have hx := who_x (S := vw μ g) (s := s)
  rw [vw_at (a := 18) (by decide)] at hx
  unfold y_hand at hq
  cases hwo : who (vw μ g) s with
  | some p =>
    rw [hwo] at hx hq
    rw [hx.2]
    exact k_X2_handOut_5 ⟨fun _ => ⟨fun _ => k_X2_handOut_30 (hq _ mr.rf), fun h => absurd rfl h⟩, fun h => absurd h (nI_neg1 (by omega))⟩
  | none =>
    rw [hwo] at hx hq
    rw [hx]
    refine k_X2_handOut_5 ⟨fun h => absurd rfl h, fun _ => p_firstWhoTakes hP hP8 hs ?_⟩
    dsimp only at hq
    cases hf : y_first (vw μ g) s (gP (vw μ g)) 0 none with
    | none =>
      rw [hf] at hq
      exact k_X2_handOut_14 ⟨fun _ => k_X2_handOut_30 (hq _ mr.rf), fun h => absurd rfl h⟩
    | some p =>
      rw [hf] at hq
      have hpP := y_first_lt (P := gP (vw μ g)) _ _ _ (by omega) (fun q h => by cases h) p hf
      refine k_X2_handOut_14 ⟨fun h => absurd h (nI_neg1 (by omega)), fun _ => ?_⟩
      refine p_moveIn (p := p) (s := s) (by omega) ?_
      intro μ' m'
      exact k_X2_handOut_30 (hq _ m')
end PW
