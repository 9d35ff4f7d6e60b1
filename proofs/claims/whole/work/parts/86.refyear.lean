/-! the reference's year, strip by strip and one by one -/
def RG (μ : si_Mm) (n : Nat) (V : VT) (S : gS) : Prop := RV μ S ∧ gw S n ∧ gr S ∧ n ≤ 6 ∧ RT μ n V ∧ vr V
theorem RG.s {μ μ' : si_Mm} {n : Nat} {V : VT} {S : gS} (h : RG μ n V S) (hf : fx Js A0 μ μ') : RG μ' n V S := ⟨h.1.s hf h.2.1.1, h.2.1, h.2.2.1, h.2.2.2.1, h.2.2.2.2.1.of (by funext k; exact hf 30 0 k (by omega) rfl) (by funext k; exact hf 29 0 k (by omega) rfl), h.2.2.2.2.2⟩
theorem RT.g {μ μ' : si_Mm} {n : Nat} {V : VT} (h : RT μ n V) (hf : fx Jg Ag μ μ') : RT μ' n V := h.of (by funext k; exact hf 30 0 k (by omega) rfl) (by funext k; exact hf 29 0 k (by omega) rfl)
theorem fx.c {μ : si_Mm} {k : Nat} {v : Int32} : fx Jg Ag μ (si_ms μ 35 0 k v) := fun a i j _ e2 => by
  rw [ms_eq, if_neg (fun q => by rw [q.1] at e2; exact absurd e2 (by decide))]
theorem fx.pc {μ : si_Mm} {p : Nat} {v : Int32} : fx Jg Ag μ (pc3 μ p v) := fun a i j _ e2 => by
  have ne : a ≠ 35 := fun q => by rw [q] at e2; exact absurd e2 (by decide)
  rw [pc3_at, if_neg (fun q => ne q.1), if_neg (fun q => ne q.1), if_neg (fun q => ne q.1)]
theorem within_i {x : Int32} {a b : Int32} {A B : Int} (hA : a.toInt = A) (hB : b.toInt = B) : (if x < a then a else if b < x then b else x).toInt = if x.toInt < A then A else if B < x.toInt then B else x.toInt := by
  by_cases h1 : x < a
  · have h1' : x.toInt < A := by rw [i_lt, hA] at h1; exact h1
    rw [if_pos h1, if_pos h1', hA]
  · have h1' : ¬ x.toInt < A := by rw [i_lt, hA] at h1; exact h1
    rw [if_neg h1, if_neg h1']
    by_cases h2 : b < x
    · have h2' : B < x.toInt := by rw [i_lt, hB] at h2; exact h2
      rw [if_pos h2, if_pos h2', hB]
    · have h2' : ¬ B < x.toInt := by rw [i_lt, hB] at h2; exact h2
      rw [if_neg h2, if_neg h2']
section RY
variable {sc : si_Sc} {d : Nat} {μ : si_Mm} {Q : si_Po} {n : Nat} {V : VT} {S : gS}
set_option maxHeartbeats 1000000 in
theorem r_tendsOf {p : Nat} (h : RG μ n V S) (hp : p < gP S) (h18 : 0 ≤ S 18 p) (hq : ∀ μ', fx Js A0 μ μ' → Q (some (.inl (y_eff S p (V (gR S) 0 (nv S (stO S p) (some p)))))) μ') : si_W sc (d + 43) 182 0 [some (.inr (.inr (7, 0))), some (.inl (nI p)), none, none, none, none] [] μ Q := by
  obtain ⟨hR, hw, hr, hn6, hT, hV⟩ := h
  have h8 := hw.1
  have cp : (nI p).toNatClampNeg = p := nI_c (by omega)
  have hin : vp_in (nI p) 8 := vp_in_nI (by omega) (by omega)
  obtain ⟨q1, q2, q3, q4, q5⟩ := hR.2.2.2.2.2.2 p hp
  have hst := pl_in hw hp h18
  refine k_X7_tendsOf_0 ⟨hin, r_stripOf hR hp h8 (k_X7_tendsOf_15 ?_)⟩
  rw [cp, q1, hst.2]
  refine r_says (w := 0) (o := some p) hR hw hn6 hT (by omega) hst.1 ⟨hp, rfl, h18⟩ fun μ1 f1 => k_X7_tendsOf_18 (k_X7_at_0 (k_X7_tendsOf_28 ?_))
  have hR1 := hR.s f1 h8
  obtain ⟨r1, r2, r3, r4, r5⟩ := hR1.2.2.2.2.2.2 p hp
  have hv := hV (gR S) 0 (nv S (stO S p) (some p))
  have q := hq μ1 f1
  generalize V (gR S) 0 (nv S (stO S p) (some p)) = v at hv q
  have cc : (nI (6 + 4 * p + 2)).toNatClampNeg = 6 + 4 * p + 2 := nI_c (by omega)
  rw [at_2, cc, (r5 h18).2]
  have hp8 : p < 8 := by omega
  have g17 := gr17 hr hp8
  have g19 := gr19 hr hp8
  have nn : ∀ w : Int32, 0 ≤ w.toInt → (0 ≤ w ∧ True) := fun w hw => ⟨by rw [i_le, i_0]; exact hw, trivial⟩
  have dbl : (2 * v).toInt = 2 * v.toInt := by rw [i_mul (by rw [i_2]; omega) (by rw [i_2]; omega), i_2]
  unfold y_eff at q
  have key : ∀ w : Int32, w = (if S 20 p ≤ 0 then 0 else v) → 0 ≤ w.toInt → w.toInt ≤ 99 → si_W sc (d + 43) 182 37 [some (.inr (.inr (7, 0))), some (.inl (nI p)), some (.inl (S 16 p)), some (.inl v), none, none] [.inl w] μ1 Q := by
    intro w hw0 hw1 hw2
    have e3 : (3 : Int32).toInt = 3 := by decide
    refine k_X7_tendsOf_37 ⟨fun c1 => ⟨fun c2 => ⟨fun c3 => ⟨fun c4 => ⟨fun c5 => k_X7_tendsOf_113 ?_, fun c5 => k_X7_tendsOf_113 ?_⟩, fun c4 => ⟨hin, k_X7_tendsOf_113 ?_⟩⟩, fun c3 => k_X7_at_0 (k_X7_tendsOf_77 ?_)⟩, fun c2 => k_X7_tendsOf_113 ?_⟩, fun c1 => k_X7_tendsOf_113 ?_⟩
    · rw [if_neg c1, if_neg c2, if_neg c3, if_neg c4, if_neg c5] at q
      exact ⟨fun _ => q, fun c => absurd (nn v hv.1).1 c⟩
    · rw [if_neg c1, if_neg c2, if_neg c3, if_neg c4, if_pos c5] at q
      unfold mx0 at q
      refine ⟨fun c => ?_, fun c => ?_⟩
      · by_cases e : 0 < v - 3
        · rw [if_pos e] at q; exact q
        · rw [if_neg e] at q
          have : v - 3 = 0 := by rw [i_eq, i_0]; rw [i_le, i_0] at c; rw [i_lt, i_0] at e; omega
          rw [this]; exact q
      · rw [if_neg (fun e => c (by rw [i_le]; rw [i_lt] at e; omega))] at q; exact q
    · rw [if_neg c1, if_neg c2, if_neg c3, if_pos c4, ← hw0] at q
      rw [cp, r2, Int32.add_comm]
      refine ⟨fun _ => q, fun c => absurd ?_ c⟩
      rw [i_le, i_0, i_add (by omega) (by omega)]; omega
    · have c1' : (nI (6 + 4 * p + 1)).toNatClampNeg = 6 + 4 * p + 1 := nI_c (by omega)
      rw [at_1, c1', (r5 h18).1]
      rw [if_neg c1, if_neg c2, if_pos c3] at q
      unfold mx0 at q
      refine ⟨vp_in_nI (by omega) (by omega), by decide, k_X7_tendsOf_113 ⟨fun c => ?_, fun c => ?_⟩⟩
      · by_cases e : 0 < 2 * v - S 19 p / 4
        · rw [if_pos e] at q; exact q
        · rw [if_neg e] at q
          have : 2 * v - S 19 p / 4 = 0 := by rw [i_eq, i_0]; rw [i_le, i_0] at c; rw [i_lt, i_0] at e; omega
          rw [this]; exact q
      · rw [if_neg (fun e => c (by rw [i_le]; rw [i_lt] at e; omega))] at q; exact q
    · rw [if_neg c1, if_pos c2, ← hw0] at q
      exact ⟨fun _ => q, fun c => absurd (nn w hw1).1 c⟩
    · rw [if_pos c1] at q
      exact ⟨fun _ => q, fun c => absurd (nn _ (by rw [dbl]; omega)).1 c⟩
  refine ⟨vp_in_nI (by omega) (by omega), fun c => key 0 (by rw [if_pos c]) (by decide) (by decide), fun c => key v (by rw [if_neg c]) hv.1 hv.2⟩
set_option maxHeartbeats 1000000 in
theorem r_stays {p : Nat} (h : RG μ n V S) (hp : p < gP S) (h18 : 0 ≤ S 18 p) (hq : ∀ μ', fx Js A0 μ μ' → Q (some (.inl (y_remI S p (V (gR S) 2 (nv S (stO S p) (some p)))))) μ') : si_W sc (d + 43) 183 0 [some (.inr (.inr (7, 0))), some (.inl (nI p)), none, none, none] [] μ Q := by
  obtain ⟨hR, hw, hr, hn6, hT, hV⟩ := h
  have h8 := hw.1
  have cp : (nI p).toNatClampNeg = p := nI_c (by omega)
  have hin : vp_in (nI p) 8 := vp_in_nI (by omega) (by omega)
  obtain ⟨q1, q2, q3, q4, q5⟩ := hR.2.2.2.2.2.2 p hp
  have hst := pl_in hw hp h18
  have c1' : (nI (6 + 4 * p + 1)).toNatClampNeg = 6 + 4 * p + 1 := nI_c (by omega)
  refine k_X7_stays_0 ⟨hin, k_X7_at_0 (k_X7_stays_16 ?_)⟩
  rw [cp, q1, at_1, c1', (q5 h18).1]
  refine ⟨vp_in_nI (by omega) (by omega), r_stripOf hR hp h8 (k_X7_stays_26 ?_)⟩
  rw [hst.2]
  refine r_says (w := 2) (o := some p) hR hw hn6 hT (by omega) hst.1 ⟨hp, rfl, h18⟩ fun μ1 f1 => k_X7_stays_29 ?_
  have hR1 := hR.s f1 h8
  obtain ⟨r1, r2, r3, r4, r5⟩ := hR1.2.2.2.2.2.2 p hp
  have q := hq μ1 f1
  generalize V (gR S) 2 (nv S (stO S p) (some p)) = v at q
  have ht : y_rem S p v → Q (some (.inl 1)) μ1 := fun e => by rw [y_remI_t e] at q; exact q
  have hf : ¬ y_rem S p v → Q (some (.inl 0)) μ1 := fun e => by rw [y_remI_f e] at q; exact q
  unfold y_rem at ht hf
  rw [cp, r2]
  refine ⟨fun c3 => ⟨fun c5 => ?_, fun c5 => ⟨fun c => ⟨b0, hf ?_⟩, fun c => ⟨b1, ht ?_⟩⟩⟩, fun c3 => ⟨fun c5 => ⟨fun c1 => ⟨fun c => ⟨b1, ht ?_⟩, fun c => ⟨fun c4 => ⟨b0, hf ?_⟩, fun c4 => ⟨hin, fun e => ⟨b0, hf ?_⟩, fun e => ⟨b1, ht ?_⟩⟩⟩⟩, fun c1 => ⟨fun c => ⟨b1, ht ?_⟩, fun c => ⟨fun c4 => ⟨b0, hf ?_⟩, fun c4 => ?_⟩⟩⟩, fun c5 => ⟨fun _ => ⟨b1, ht ?_⟩, fun c => absurd c5 c⟩⟩⟩
  · rw [c3] at c5; exact absurd c5 (by decide)
  · rw [c3, if_neg (by decide), if_pos rfl]; exact i_nlt.mpr c
  · rw [c3, if_neg (by decide), if_pos rfl]; exact i_nle.mp c
  · rw [if_neg c1, if_neg c3]
    by_cases c4 : S 16 p = 4
    · rw [if_pos c4]; exact Or.inl c
    · rw [if_neg c4, if_neg c5]; exact c
  · rw [if_neg c1, if_neg c3, if_neg c4, if_neg c5]; exact c
  · rw [if_neg c1, if_neg c3, if_pos c4]; exact fun q => q.elim c (i_nlt.mpr e)
  · rw [if_neg c1, if_neg c3, if_pos c4]; exact Or.inr (i_nle.mp e)
  · rw [if_pos c1]; exact c
  · rw [if_pos c1]; exact c
  · rw [c1] at c4; exact absurd c4 (by decide)
  · rw [c5, if_neg (by decide), if_neg (by decide), if_neg (by decide), if_pos rfl]; trivial
theorem r_bears {p : Nat} (hR : RV μ S) (hp : p < gP S) (h8 : gP S ≤ 8) (hq : Q (some (.inl (bc (bearsP S p)))) μ) : si_W sc d 192 0 [some (.inr (.inr (7, 0))), some (.inl (nI p)), none] [] μ Q := by
  have cp : (nI p).toNatClampNeg = p := nI_c (by omega)
  have hin : vp_in (nI p) 8 := vp_in_nI (by omega) (by omega)
  obtain ⟨q1, q2, q3, q4, q5⟩ := hR.2.2.2.2.2.2 p hp
  have ht : bearsP S p → Q (some (.inl 1)) μ := fun h => by rw [bc_t h] at hq; exact hq
  have hf : ¬ bearsP S p → Q (some (.inl 0)) μ := fun h => by rw [bc_f h] at hq; exact hq
  unfold bearsP at ht hf
  refine k_X7_bears_0 ?_
  rw [cp, q1, q2]
  refine ⟨hin, fun c5 => ⟨fun c1 => ⟨b0, hf ?_⟩, fun c1 => ⟨fun c3 => ⟨b0, hf ?_⟩, fun c3 => ⟨b1, ht ?_⟩⟩⟩, fun c5 => ⟨hin, by decide, fun c => ⟨b0, hf ?_⟩, fun c => ⟨b1, ht ?_⟩⟩⟩
  · rw [if_pos c1]; exact id
  · rw [if_neg c1, if_pos c3]; exact id
  · rw [if_neg c1, if_neg c3, if_neg c5]; trivial
  · rw [c5, if_neg (by decide), if_neg (by decide), if_pos rfl]; exact c
  · rw [c5, if_neg (by decide), if_neg (by decide), if_pos rfl]; exact c
theorem who_18 {s p : Nat} (h : who S s = some p) : p < gP S ∧ S 18 p = nI s ∧ g_find (S 18) (nI s) (gP S) 0 = nI p := by
  have h1 := who_x (S := S) (s := s)
  rw [h] at h1
  unfold who at h
  have h2 := g_fo_lt h
  exact ⟨h1.1, h2.2.2, h1.2⟩
theorem who_n {s : Nat} (h : who S s = none) : g_find (S 18) (nI s) (gP S) 0 = -1 := by
  have h1 := who_x (S := S) (s := s)
  rw [h] at h1; exact h1
theorem stO_n {s p : Nat} (hs : s < 6) (h : S 18 p = nI s) : stO S p = s := by unfold stO; rw [h, nI_c (by omega)]
theorem nI_ge0 {s : Nat} (hs : s ≤ 1000) : 0 ≤ nI s := nI_pos' (by omega)
set_option maxHeartbeats 1000000 in
theorem r_tends {s : Nat} (h : RG μ n V S) (hs : s < 6) (hq : ∀ μ', fx Jg Ag μ μ' → RG μ' n V (y_grow V S s) → Q none μ') : si_W sc (d + 44) 197 0 [some (.inr (.inr (7, 0))), some (.inl (nI s)), none, none] [] μ Q := by
  have hG := h
  obtain ⟨hR, hw, hr, hn6, hT, hV⟩ := h
  have h8 := hw.1
  have cs : (nI s).toNatClampNeg = s := nI_c (by omega)
  have i38 : vp_in (nI s) 38 := vp_in_nI (by omega) (by omega)
  refine k_X7_tends_0 (r_whose hR hw (k_X7_tends_5 ?_))
  have hox : match who S s with | some p => p < gP S ∧ g_find (S 18) (nI s) (gP S) 0 = nI p ∧ 0 ≤ S 18 p | none => g_find (S 18) (nI s) (gP S) 0 = -1 := by
    cases hwo : who S s with
    | none => exact who_n hwo
    | some p =>
      have := who_18 hwo
      exact ⟨this.1, this.2.2, by rw [this.2.1]; exact nI_ge0 (by omega)⟩
  refine r_says (w := 1) (o := who S s) hR hw hn6 hT (by omega) hs hox fun μ1 f1 => k_X7_tends_13 ?_
  have hR1 := hR.s f1 h8
  have hv := hV (gR S) 1 (nv S s (who S s))
  have g14 := gr14 hr hs
  have g15 := gr15 hr hs
  rw [cs, (hR1.2.2.2.2.2.1 s hs).2, (hR1.2.2.2.2.2.1 s hs).1]
  unfold y_grow at hq
  have after : ∀ w : Int32, w = mx0 (S 14 s - (if S 15 s = 0 then V (gR S) 1 (nv S s (who S s)) else 2 * V (gR S) 1 (nv S s (who S s)))) → ∀ a3 : Int32, si_W sc (d + 44) 197 49 [some (.inr (.inr (7, 0))), some (.inl (nI s)), some (.inl (g_find (S 18) (nI s) (gP S) 0)), some (.inl a3)] [.inl w, .inl (nI s), .inr (.inr (35, 0))] μ1 Q := by
    intro w ew a3
    have hR2 : RV (si_ms μ1 35 0 s w) (y_grow1 V S s) := by
      unfold y_grow1
      rw [← ew]
      exact hR1.r14 hs
    have gS2 : gw (y_grow1 V S s) n := gw_up hw (by decide) (by decide)
    have f2 : fx Jg Ag μ (si_ms μ1 35 0 s w) := f1.sg.tr fx.c
    refine k_X7_tends_49 ⟨i38, fun c => ?_, fun c => ⟨i38, ?_⟩⟩
    · rw [cs]
      cases hwo : who S s with
      | some p => rw [(who_18 hwo).2.2] at c; have := (who_18 hwo).1; exact absurd c (nI_neg1 (by omega))
      | none =>
        rw [hwo] at hq
        have g3 := gr_grow (n := n) hV hw hs hr
        unfold y_grow at g3
        rw [hwo] at g3
        exact hq _ f2 ⟨hR2, gS2, g3, hn6, hT.g f2, hV⟩
    · rw [cs]
      cases hwo : who S s with
      | none => rw [who_n hwo] at c; exact absurd rfl c
      | some p =>
        obtain ⟨hp, h18, hgf⟩ := who_18 hwo
        rw [hgf]
        rw [hwo] at hq
        have g3 := gr_grow (n := n) hV hw hs hr
        have w3 := gw_grow (V := V) (s := s) hw
        unfold y_grow at g3 w3
        rw [hwo] at g3 w3
        have hP2 : gP (y_grow1 V S s) = gP S := gP_up (by decide)
        have e18 : (y_grow1 V S s) 18 = S 18 := upS_ne (by decide)
        have hr2 : gr (y_grow1 V S s) := by
          unfold y_grow1
          refine gr_up hr ?_
          have hdbl : (2 * V (gR S) 1 (nv S s (who S s))).toInt = 2 * (V (gR S) 1 (nv S s (who S s))).toInt := by rw [i_mul (by rw [i_2]; omega) (by rw [i_2]; omega), i_2]
          rw [(hi_14 hs).1, (hi_14 hs).2, mx0_i]
          by_cases c0 : S 15 s = 0
          · rw [if_pos c0, i_sub (by omega) (by omega)]; split <;> omega
          · rw [if_neg c0, i_sub (by rw [hdbl]; omega) (by rw [hdbl]; omega), hdbl]; split <;> omega
        refine r_tendsOf (p := p) ⟨hR2, gS2, hr2, hn6, hT.g f2, hV⟩ (by rw [hP2]; exact hp) (by rw [e18, h18]; exact nI_ge0 (by omega)) fun μ3 f3 => k_X7_tends_71 (r_within (k_X7_tends_78 ⟨i38, ?_⟩))
        have hR3 := hR2.s f3 (by rw [hP2]; exact h8)
        rw [cs]
        have f4 : fx Jg Ag μ μ3 := f2.tr f3.sg
        refine hq _ (f4.tr fx.c) ⟨?_, w3, g3, hn6, hT.g (f4.tr fx.c), hV⟩
        unfold y_grow2
        dsimp only
        have e2 : (si_ms μ1 35 0 s w).1 35 0 s = (y_grow1 V S s) 14 s := (hR2.2.2.2.2.2.1 s hs).1
        rw [e2]
        have est : stO (y_grow1 V S s) p = s := stO_n hs (by rw [e18]; exact h18)
        rw [est]
        have heff := eff_i (v := V (gR (y_grow1 V S s)) 0 (nv (y_grow1 V S s) s (some p))) hr2 (p := p) (by omega) (hV _ _ _)
        generalize y_eff (y_grow1 V S s) p (V (gR (y_grow1 V S s)) 0 (nv (y_grow1 V S s) s (some p))) = ef at heff
        have h14 := gr14 hr2 hs
        have ev : (if (y_grow1 V S s) 14 s + ef < 0 then 0 else if 99 < (y_grow1 V S s) 14 s + ef then 99 else (y_grow1 V S s) 14 s + ef) = mn 99 ((y_grow1 V S s) 14 s + ef) := by
          rw [i_eq, within_i i_0 i_99, mn_i, i_99, i_add (by omega) (by omega)]
          repeat' split
          all_goals omega
        rw [ev]
        exact hR3.r14 hs
  have cl0 : ∀ x : Int32, x.toInt ≤ 99 → (if x < 0 then 0 else if 99 < x then 99 else x) = mx0 x := by
    intro x hx
    rw [i_eq, within_i i_0 i_99, mx0_i]
    repeat' split
    all_goals omega
  have hdbl : (2 * V (gR S) 1 (nv S s (who S s))).toInt = 2 * (V (gR S) 1 (nv S s (who S s))).toInt := by rw [i_mul (by rw [i_2]; omega) (by rw [i_2]; omega), i_2]
  refine ⟨i38, vp_in_nI hs (by omega), fun c => r_within ?_, fun c => r_within ?_⟩
  · have c0 : S 15 s = 0 := by
      rw [i_eq, i_0]
      have : ¬ (S 15 s).toInt = 1 := fun e => c (by rw [i_eq, i_1]; exact e)
      omega
    rw [cl0 _ (by rw [i_sub (by omega) (by omega)]; omega)]
    exact after _ (by rw [if_pos c0]) _
  · have c0 : ¬ S 15 s = 0 := by rw [c]; decide
    rw [cl0 _ (by rw [i_sub (by rw [hdbl]; omega) (by rw [hdbl]; omega), hdbl]; omega)]
    exact after _ (by rw [if_neg c0]) _
set_option maxHeartbeats 1000000 in
theorem r_judges {p : Nat} (h : RG μ n V S) (hp : p < gP S) (h18 : 0 ≤ S 18 p) (hq : ∀ μ', fx Jg Ag μ μ' → RG μ' n V (y_warn V S p (stO S p)) → Q none μ') : si_W sc (d + 44) 198 0 [some (.inr (.inr (7, 0))), some (.inl (nI p))] [] μ Q := by
  obtain ⟨hR, hw, hr, hn6, hT, hV⟩ := h
  have h8 := hw.1
  have hp8 : p < 8 := by omega
  have hst := pl_in hw hp h18
  have c1 : (nI (6 + 4 * p + 1)).toNatClampNeg = 6 + 4 * p + 1 := nI_c (by omega)
  have c2 : (nI (6 + 4 * p + 2)).toNatClampNeg = 6 + 4 * p + 2 := nI_c (by omega)
  have i1 : vp_in (nI (6 + 4 * p + 1)) 38 := vp_in_nI (by omega) (by omega)
  have i2 : vp_in (nI (6 + 4 * p + 2)) 38 := vp_in_nI (by omega) (by omega)
  have gwW := gw_warn (V := V) (p := p) (s := stO S p) hw
  have grW := gr_warn (V := V) (p := p) (s := stO S p) hp8 hr
  have e9 : (9 : Int32).toInt = 9 := by decide
  unfold y_warn at hq gwW grW
  have e1P : gP (y_warn1 S p (stO S p)) = gP S := by
    unfold y_warn1; split
    · rfl
    · exact gP_up (by decide)
  have e1w : gw (y_warn1 S p (stO S p)) n := gw_warn1 hw
  have e118 : (y_warn1 S p (stO S p)) 18 = S 18 := by
    unfold y_warn1; split
    · rfl
    · exact upS_ne (by decide)
  have e1r : gr (y_warn1 S p (stO S p)) := by
    unfold y_warn1; split
    · exact hr
    · refine gr_up hr ?_
      have g20 := gr20 hr hp8
      rw [(hi_20 hp8).1, (hi_20 hp8).2, mn_i, i_add (by rw [i_1]; omega) (by rw [i_1]; omega), i_1, e9]
      split <;> omega
  have key : ∀ μ1, fx Jg Ag μ μ1 → RV μ1 (y_warn1 S p (stO S p)) → si_W sc (d + 44) 198 54 [some (.inr (.inr (7, 0))), some (.inl (nI p))] [.inl (nI (6 + 4 * p + 2)), .inr (.inr (35, 0))] μ1 Q := by
    intro μ1 f1 hR1
    generalize y_warn1 S p (stO S p) = S1 at *
    have hp1 : p < gP S1 := by omega
    have h181 : 0 ≤ S1 18 p := by rw [e118]; exact h18
    obtain ⟨q1, q2, q3, q4, q5⟩ := hR1.2.2.2.2.2.2 p hp1
    unfold y_warn2 at hq gwW grW
    refine k_X7_judges_54 ⟨i2, fun hl => k_X7_at_0 (k_X7_judges_79 (k_X7_at_0 (k_X7_judges_88 ?_))), fun hl => r_puts hp8 (k_X7_judges_69 ?_)⟩
    · rw [c2, (q5 h181).2, hR1.2.2.1] at hl
      rw [if_pos hl] at hq gwW grW
      rw [at_1, c1, (q5 h181).1]
      refine ⟨i1, r_within (k_X7_judges_98 ⟨?_, ?_⟩)⟩
      · exact i1
      · rw [c1]
        have g19 := gr19 e1r hp8
        have ev : (if S1 19 p + 1 < 0 then 0 else if 999 < S1 19 p + 1 then 999 else S1 19 p + 1) = mn 999 (S1 19 p + 1) := by
          rw [i_eq, within_i i_0 i_999, mn_i, i_999, i_add (by rw [i_1]; omega) (by rw [i_1]; omega), i_1]
          repeat' split
          all_goals omega
        rw [ev]
        have hR2 : RV (si_ms μ1 35 0 (6 + 4 * p + 1) (mn 999 (S1 19 p + 1))) (upS S1 19 p (mn 999 (S1 19 p + 1))) := hR1.pe (by omega)
        have hr2 : gr (upS S1 19 p (mn 999 (S1 19 p + 1))) := by
          refine gr_up e1r ?_
          rw [(hi_19 hp8).1, (hi_19 hp8).2, mn_i, i_add (by rw [i_1]; omega) (by rw [i_1]; omega), i_1, i_999]
          split <;> omega
        have hw2 : gw (upS S1 19 p (mn 999 (S1 19 p + 1))) n := gw_up e1w (by decide) (by decide)
        have hP2 : gP (upS S1 19 p (mn 999 (S1 19 p + 1))) = gP S1 := gP_up (by decide)
        have hR0 : gR (upS S1 19 p (mn 999 (S1 19 p + 1))) = gR S1 := gR_up (by decide)
        have e182 : (upS S1 19 p (mn 999 (S1 19 p + 1))) 18 = S1 18 := upS_ne (by decide)
        have est : stO (upS S1 19 p (mn 999 (S1 19 p + 1))) p = stO S p := by unfold stO; rw [e182, e118]
        have f2 : fx Jg Ag μ (si_ms μ1 35 0 (6 + 4 * p + 1) (mn 999 (S1 19 p + 1))) := f1.tr fx.c
        generalize upS S1 19 p (mn 999 (S1 19 p + 1)) = S2 at *
        refine r_stays (p := p) ⟨hR2, hw2, hr2, hn6, hT.g f2, hV⟩ (by omega) (by rw [e182]; exact h181) fun μ3 f3 => k_X7_judges_104 ?_
        have hR3 := hR2.s f3 (by omega)
        have f4 : fx Jg Ag μ μ3 := f2.tr f3.sg
        rw [hR0, est]
        refine ⟨fun hz => k_X7_judges_114 ?_, fun hz => r_puts hp8 (k_X7_judges_114 ?_)⟩
        · rw [if_neg hz] at hq gwW grW
          exact hq μ3 f4 ⟨hR3, gwW, grW, hn6, hT.g f4, hV⟩
        · rw [if_pos hz] at hq gwW grW
          refine hq _ (f4.tr fx.pc) ⟨?_, gwW, grW, hn6, hT.g (f4.tr fx.pc), hV⟩
          exact hR3.pu upS_eq (fun c => absurd c (by decide)) (fun a k n1 _ _ => by unfold upS; rw [if_neg n1])
    · rw [c2, (q5 h181).2, hR1.2.2.1] at hl
      rw [if_neg hl] at hq gwW grW
      refine hq _ (f1.tr fx.pc) ⟨?_, gwW, grW, hn6, hT.g (f1.tr fx.pc), hV⟩
      exact hR1.pu upS_eq (fun c => absurd c (by decide)) (fun a k n1 _ _ => by unfold upS; rw [if_neg n1])
  have e0 : (nI (stO S p)).toNatClampNeg = stO S p := nI_c (by omega)
  obtain ⟨q1, q2, q3, q4, q5⟩ := hR.2.2.2.2.2.2 p hp
  refine k_X7_judges_0 (r_stripOf hR hp h8 (k_X7_judges_9 ?_))
  rw [hst.2, e0, (hR.2.2.2.2.2.1 _ hst.1).1, hR.2.1]
  refine ⟨vp_in_nI (by omega) (by omega), fun hl => k_X7_at_0 ?_, fun hl => k_X7_at_0 (k_X7_judges_26 (k_X7_at_0 (k_X7_judges_35 ?_)))⟩
  · rw [at_2]
    refine key μ fx.rf ?_
    unfold y_warn1
    rw [if_pos hl]; exact hR
  · rw [at_2, c2, (q5 h18).2]
    refine ⟨i2, r_within (k_X7_judges_44 ⟨i2, k_X7_at_0 ?_⟩)⟩
    rw [at_2, c2]
    refine key _ fx.c ?_
    unfold y_warn1
    rw [if_neg hl]
    have g20 := gr20 hr hp8
    have ev : (if S 20 p + 1 < 0 then 0 else if 9 < S 20 p + 1 then 9 else S 20 p + 1) = mn 9 (S 20 p + 1) := by
      rw [i_eq, within_i i_0 e9, mn_i, e9, i_add (by rw [i_1]; omega) (by rw [i_1]; omega), i_1]
      repeat' split
      all_goals omega
    rw [ev]
    exact hR.pe (by omega)
end RY
