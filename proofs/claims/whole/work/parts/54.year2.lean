/-! growAndTend, warnOrLeave -/
def gw (S : Nat → Nat → Int32) (n : Nat) : Prop := gP S ≤ 8 ∧ S 2 6 = nI (gP S) ∧ gR S < n ∧ S 2 5 = nI (gR S) ∧ ∀ p, p < gP S → (S 18 p = -5 ∨ S 18 p = -1 ∨ ∃ s, s < 6 ∧ S 18 p = nI s)
def y_V (cd : Nat → Int32) (e : Nat → Nat) : Nat → Nat → (Nat → Int32) → Int32 := fun t p nm => cl (tv cd e t p nm)
def y_grow1 (V : Nat → Nat → (Nat → Int32) → Int32) (S : Nat → Nat → Int32) (s : Nat) : Nat → Nat → Int32 := upS S 14 s (mx0 (S 14 s - (if S 15 s = 0 then V (gR S) 1 (nv S s (who S s)) else 2 * V (gR S) 1 (nv S s (who S s)))))
def y_grow2 (V : Nat → Nat → (Nat → Int32) → Int32) (S : Nat → Nat → Int32) (s : Nat) (o : Option Nat) : Nat → Nat → Int32 := match o with
  | none => S
  | some p => upS S 14 s (mn 99 (S 14 s + y_eff S p (V (gR S) 0 (nv S s (some p)))))
def y_grow (V : Nat → Nat → (Nat → Int32) → Int32) (S : Nat → Nat → Int32) (s : Nat) : Nat → Nat → Int32 := y_grow2 V (y_grow1 V S s) s (who S s)
theorem upS_ne {S : Nat → Nat → Int32} {a k : Nat} {v : Int32} {a' : Nat} (h : a' ≠ a) : upS S a k v a' = S a' := by
  funext k'
  unfold upS
  rw [if_neg (fun q => h q.1)]
theorem upS_eq {S : Nat → Nat → Int32} {a k : Nat} {v : Int32} : upS S a k v a k = v := if_pos ⟨rfl, rfl⟩
theorem gR_up {S : Nat → Nat → Int32} {a k : Nat} {v : Int32} (h : a ≠ 2) : gR (upS S a k v) = gR S := by
  unfold gR
  rw [upS_ne (fun e => h e.symm)]
theorem gP_up {S : Nat → Nat → Int32} {a k : Nat} {v : Int32} (h : a ≠ 2) : gP (upS S a k v) = gP S := by
  unfold gP
  rw [upS_ne (fun e => h e.symm)]
theorem who_x {S : Nat → Nat → Int32} {s : Nat} : match who S s with | some p => p < gP S ∧ g_find (S 18) (nI s) (gP S) 0 = nI p | none => g_find (S 18) (nI s) (gP S) 0 = -1 := by
  have h := g_find_o (S 18) (nI s) (gP S) 0
  unfold who
  cases hw : g_fo (S 18) (nI s) (gP S) 0 with
  | none => rw [hw] at h; exact h
  | some p =>
    rw [hw] at h
    have h2 := g_fo_lt hw
    exact ⟨by omega, h⟩
theorem nI_neg1 {p : Nat} (h : p ≤ 1000) : ¬ nI p = -1 := fun q => by
  have h1 : (nI p).toInt = (p : Int) := nI_toInt (by omega)
  rw [q] at h1
  have h2 : (-1 : Int32).toInt = -1 := by decide
  omega
section PG
variable {sc : si_Sc} {d g : Nat} {μ : si_Mm} {Q : si_Po}
set_option maxHeartbeats 2000000 in
theorem p_growAndTend {n s : Nat} {e : Nat → Nat} (hb : bk μ n e) (hw : gw (vw μ g) n) (hs : s < 6) (hq : ∀ μ', mr g μ μ' (y_grow (y_V (μ.1 10 0) e) (vw μ g) s) → Q none μ') : si_W sc (d + 3) 32 0 [some (.inr (.inr (2, g))), some (.inl (nI s)), none, none, none] [] μ Q := by
  have cs : (nI s).toNatClampNeg = s := nI_c (by omega)
  have hin : vp_in (nI s) 6 := vp_in_nI hs (by omega)
  obtain ⟨hP8, hP, hR, hRr, hpl⟩ := hw
  rw [vw_at (a := 2) (by decide)] at hP hRr
  refine k_X2_growAndTend_0 (p_holder hP hP8 ?_)
  have hx := who_x (S := vw μ g) (s := s)
  rw [vw_at (a := 18) (by decide)] at hx
  refine k_X2_growAndTend_5 (p_ask (pn := 1) (tn := gR (vw μ g)) (P := gP (vw μ g)) (s := s) (o := who (vw μ g) s) hb hR (by decide) hRr hP hP8 hs hx ?_)
  intro μ1 h1
  have e1 : vw μ1 g = vw μ g := (mr.sq h1).1
  rw [nv_vw]
  have hwith : ∀ v : Int32, v = (if μ.1 15 g s = 0 then y_V (μ.1 10 0) e (gR (vw μ g)) 1 (nv (vw μ g) s (who (vw μ g) s)) else 2 * y_V (μ.1 10 0) e (gR (vw μ g)) 1 (nv (vw μ g) s (who (vw μ g) s))) → si_W sc (d + 2) 31 0 [some (.inr (.inr (2, g))), some (.inl (nI s)), some (.inl v)] [] μ1 (fun rv μq => si_W sc (d + 3) 32 35 [some (.inr (.inr (2, g))), some (.inl (nI s)), some (.inl (g_find (μ.1 18 g) (nI s) (gP (vw μ g)) 0)), some (.inl (cl (tv (μ.1 10 0) e (gR (vw μ g)) 1 (nv (vw μ g) s (who (vw μ g) s))))), none] (si_rt rv []) μq Q) := by
    intro v hv
    refine p_wither hs ?_
    generalize hμ2 : si_ms μ1 14 g s (mx0 (μ1.1 14 g s - v)) = μ2
    have m2 : mr g μ μ2 (y_grow1 (y_V (μ.1 10 0) e) (vw μ g) s) := by
      have h2 := (mr.sq h1 (g := g)).tr (mr.ms (g := g) (a := 14) (k := s) (μ := μ1) (v := mx0 (μ1.1 14 g s - v)) (by decide))
      rw [hμ2, e1, ← vw_at (μ := μ1) (a := 14) (by decide), e1, hv] at h2
      unfold y_grow1
      rw [vw_at (a := 15) (by decide)]
      exact h2
    unfold y_grow at hq
    show si_W sc (d + 3) 32 35 _ [] μ2 Q
    refine k_X2_growAndTend_35 ⟨fun hn => ?_, fun hn => ?_⟩
    · cases hwo : who (vw μ g) s with
      | none => rw [hwo] at hq; exact hq _ m2
      | some p =>
        rw [hwo] at hx
        rw [hx.2] at hn
        exact absurd hn (nI_neg1 (by omega))
    · cases hwo : who (vw μ g) s with
      | none => rw [hwo] at hx; exact absurd hx hn
      | some p =>
        rw [hwo] at hx hq
        have hp8 : p < 8 := by omega
        have e2 : vw μ2 g = y_grow1 (y_V (μ.1 10 0) e) (vw μ g) s := m2.1
        have hP2 : μ2.1 2 g 6 = nI (gP (vw μ g)) := by
          rw [← vw_at (μ := μ2) (a := 2) (by decide), e2]
          unfold y_grow1
          rw [upS_ne (by decide), vw_at (by decide)]
          exact hP
        have hR2 : μ2.1 2 g 5 = nI (gR (vw μ g)) := by
          rw [← vw_at (μ := μ2) (a := 2) (by decide), e2]
          unfold y_grow1
          rw [upS_ne (by decide), vw_at (by decide)]
          exact hRr
        refine p_ask (pn := 0) (tn := gR (vw μ g)) (P := gP (vw μ g)) (s := s) (o := some p) (m2.bk hb) hR (by decide) hR2 hP2 hP8 hs hx ?_
        intro μ3 h3
        have e3 : vw μ3 g = vw μ2 g := (mr.sq h3).1
        refine k_X2_growAndTend_47 ⟨hin, ?_⟩
        rw [hx.2, cs]
        refine p_effort hp8 ?_
        refine k_X2_growAndTend_69 ⟨hin, ?_⟩
        refine hq _ ?_
        rw [cs]
        have h4 := (m2.tr (mr.sq h3 (g := g))).tr (mr.ms (g := g) (a := 14) (k := s) (μ := μ3) (v := mn 99 (μ3.1 14 g s + y_eff (vw μ3 g) p (cl (tv (μ2.1 10 0) e (gR (vw μ g)) 0 (nv (fun a => μ2.1 a g) s (some p)))))) (by decide))
        rw [nv_vw, m2.cd] at h4 ⊢
        have e4 : upS (vw μ3 g) 14 s (mn 99 (μ3.1 14 g s + y_eff (vw μ3 g) p (cl (tv (μ.1 10 0) e (gR (vw μ g)) 0 (nv (vw μ2 g) s (some p)))))) = y_grow2 (y_V (μ.1 10 0) e) (y_grow1 (y_V (μ.1 10 0) e) (vw μ g) s) s (some p) := by
          rw [← vw_at (μ := μ3) (a := 14) (by decide), e3, e2]
          unfold y_grow2 y_V
          dsimp only
          have eR : gR (y_grow1 (fun t p nm => cl (tv (μ.1 10 0) e t p nm)) (vw μ g) s) = gR (vw μ g) := by unfold y_grow1; exact gR_up (by decide)
          rw [eR]
        rw [e4] at h4
        exact h4
  refine k_X2_growAndTend_13 ⟨hin, fun hz => hwith _ ?_, fun hz => hwith _ ?_⟩
  · rw [cs, h1.1 _ _ (by decide) (by decide)] at hz
    rw [if_pos hz]; rfl
  · rw [cs, h1.1 _ _ (by decide) (by decide)] at hz
    rw [if_neg hz]; rfl
end PG
