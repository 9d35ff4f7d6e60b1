/-! what would be: the thought garden, the best -/
def off (q : Int32 × Int32) (c v : Int32) : Int32 × Int32 := if v ≤ q.2 then q else (c, v)
def bq (μ : si_Mm) (q : Int32 × Int32) : Prop := μ.1 0 0 0 = q.1 ∧ μ.1 0 0 1 = q.2
/-- the best is q; but for the thought garden and the scratch rows the rest is as in μ0 -/
def BI (μ0 μ : si_Mm) (q : Int32 × Int32) : Prop := sx μ0 μ ∧ bq μ q
def ansB (q : Int32 × Int32) (w : Int32) : Int32 := if w = 0 then q.1 else q.2
theorem nI_d {k : Nat} {c : Int32} (hk : k < 1000 ∧ 4 < k) (hc : c.toInt ≤ 4) : ¬ nI k = c := fun q => by
  have h1 : (nI k).toInt = (k : Int) := nI_toInt (by omega)
  rw [q] at h1
  omega
section PT
variable {sc : si_Sc} {d : Nat} {μ0 μ : si_Mm} {Q : si_Po} {n : Nat} {e : Nat → Nat} {S : gS} {q : Int32 × Int32}
theorem sx_b {μ' : si_Mm} (hg : gr (vw μ 1)) (h : ∀ a i, a ≠ 0 → μ'.1 a i = μ.1 a i) (h2 : μ'.2 = μ.2) : sx μ μ' := by
  refine ⟨fun a i e => h a i (sxa_f e).2.2.1, ?_, h2⟩
  have : vw μ' 1 = vw μ 1 := by
    funext a
    unfold vw
    by_cases e : gt a = true
    · rw [if_pos e, if_pos e]
      exact h a 1 (fun e0 => by rw [e0] at e; exact absurd e (by decide))
    · rw [if_neg e, if_neg e]
  rw [this]; exact hg
theorem p_start {x : Int32} (hs : sx μ0 μ) (hq : ∀ μ', BI μ0 μ' (-1, x) → Q none μ') : si_W sc d 1 0 [some (.inr (.inr (0, 0))), some (.inl x)] [] μ Q := by
  refine k_X0_start_0 (hq _ ⟨hs.tr (sx_b hs.2.1 (fun a i ha => ?_) rfl), ?_, ?_⟩)
  · rw [si_ms_ne _ _ _ (fun e => ha (congrArg Prod.fst e)), si_ms_ne _ _ _ (fun e => ha (congrArg Prod.fst e))]
  · rw [ms_eq, if_neg (by simp), ms_eq, if_pos ⟨rfl, rfl, rfl⟩]
  · rw [ms_eq, if_pos ⟨rfl, rfl, rfl⟩]
theorem p_offer {c v : Int32} (hb : BI μ0 μ q) (hq : ∀ μ', BI μ0 μ' (off q c v) → Q none μ') : si_W sc d 2 0 [some (.inr (.inr (0, 0))), some (.inl c), some (.inl v)] [] μ Q := by
  unfold off at hq
  refine k_X0_offer_0 ⟨fun h => hq _ ?_, fun h => hq _ ?_⟩
  · rw [hb.2.2] at h
    rw [if_pos h]; exact hb
  · rw [hb.2.2] at h
    rw [if_neg h]
    refine ⟨hb.1.tr (sx_b hb.1.2.1 (fun a i ha => ?_) rfl), ?_, ?_⟩
    · rw [si_ms_ne _ _ _ (fun e => ha (congrArg Prod.fst e)), si_ms_ne _ _ _ (fun e => ha (congrArg Prod.fst e))]
    · rw [ms_eq, if_neg (by simp), ms_eq, if_pos ⟨rfl, rfl, rfl⟩]
    · rw [ms_eq, if_pos ⟨rfl, rfl, rfl⟩]
theorem p_answer {w : Int32} (hb : bq μ q) (hq : Q (some (.inl (ansB q w))) μ) : si_W sc d 3 0 [some (.inr (.inr (0, 0))), some (.inl w)] [] μ Q := by
  unfold ansB at hq
  refine k_X0_answer_0 ⟨fun h => ?_, fun h => ?_⟩
  · rw [if_neg h, ← hb.2] at hq; exact hq
  · rw [if_pos h, ← hb.1] at hq; exact hq
theorem BI.m1 {μ' : si_Mm} {S' : gS} (hb : BI μ0 μ q) (m : mr 1 μ μ' S') (hg : gr S') : BI μ0 μ' q := by
  refine ⟨hb.1.tr (sx.m1 m hg), ?_, ?_⟩
  · rw [m.2.1 0 0 (fun e => absurd e.1 (by decide)) (by decide) (by decide)]; exact hb.2.1
  · rw [m.2.1 0 0 (fun e => absurd e.1 (by decide)) (by decide) (by decide)]; exact hb.2.2
/-- the thought garden becomes the one that is -/
theorem p_bec (h : cg μ n e S) (hq : ∀ μ', mr 1 μ μ' S → Q none μ') : si_W sc d 13 0 [some (.inr (.inr (2, 1))), some (.inr (.inr (2, 0)))] [] μ Q := by
  refine p_become (by decide) h.2.2.2.2.1 ?_ fun μ' m => hq μ' ?_
  · rw [h.2.1]; exact h.2.2.2.1
  · rw [h.2.1] at m; exact m
/-- years go over a thought garden -/
theorem p_wellT {N : Nat} {S1 : gS} (hN : N ≤ 1000) (hb : bk μ n e) (hv : vw μ 1 = S1) (hw : gw S1 n) (hr : gr S1) (hq : ∀ μ', mr 1 μ μ' (y_ys (y_V (μ.1 10 0) e) N S1) → gr (y_ys (y_V (μ.1 10 0) e) N S1) → Q (some (.inl (y_well (y_ys (y_V (μ.1 10 0) e) N S1)))) μ') : si_W sc (d + 5) 37 0 [some (.inr (.inr (2, 1))), some (.inl (nI N)), none] [] μ Q := by
  refine p_wellAfter hN hb (by rw [hv]; exact hw) ?_
  rw [hv]
  exact fun μ' m => hq μ' m (gr_ys vr_V _ _ hw hr)
theorem p_wellAsNow {N : Nat} (hN : N ≤ 1000) (h : cg μ n e S) (hq : ∀ μ', mr 1 μ μ' (y_ys (y_V (μ.1 10 0) e) N S) → sx μ μ' → Q (some (.inl (y_well (y_ys (y_V (μ.1 10 0) e) N S)))) μ') : si_W sc (d + 6) 92 0 [some (.inr (.inr (6, 0))), some (.inl (nI N))] [] μ Q := by
  refine k_X6_wellAsNow_0 (p_bec h fun μ1 m1 => k_X6_wellAsNow_11 ?_)
  refine p_wellT hN (m1.bk h.1) m1.1 h.2.2.1 h.2.2.2.1 fun μ2 m2 g2 => k_X6_wellAsNow_19 ?_
  rw [m1.cd] at m2 g2 ⊢
  exact hq μ2 (m1.tr m2) (sx.m1 (m1.tr m2) g2)
theorem sp_n {x : Int32} (h : 0 ≤ x ∧ x ≤ 30) : ∃ k, k ≤ 30 ∧ x = nI k := by
  obtain ⟨h1, h2⟩ := h
  have e5 : (30 : Int32).toInt = 30 := by decide
  rw [i_le, i_0] at h1
  rw [i_le, e5] at h2
  exact ⟨x.toInt.toNat, by omega, by rw [i_eq, nI_toInt (by omega)]; omega⟩
/-- run -/
def runT (S : gS) (x : Int32) : Prop := (0 ≤ x ∧ x ≤ 4) ∨ (10 ≤ x ∧ x ≤ 15) ∨ (20 ≤ x ∧ x ≤ 25) ∨ (30 ≤ x ∧ x ≤ 29 + nI (gP S))
theorem p_mayRunTell {x : Int32} (h : cg μ n e S) (hq : Q (some (.inl (bc (runT S x)))) μ) : si_W sc (d + 1) 91 0 [some (.inr (.inr (6, 0))), some (.inl x)] [] μ Q := by
  refine k_X6_mayRunTell_0 (p_isWithin (k_X6_mayRunTell_6 ⟨fun h1 => ⟨b1, ?_⟩, fun h1 => p_isWithin (k_X6_mayRunTell_17 ⟨fun h2 => ⟨b1, ?_⟩, fun h2 => p_isWithin (k_X6_mayRunTell_28 ⟨fun h3 => ⟨b1, ?_⟩, fun h3 => p_isWithin (k_X6_mayRunTell_47 ⟨fun h4 => ⟨b0, ?_⟩, fun h4 => ⟨b1, ?_⟩⟩)⟩)⟩)⟩))
  · rw [bc_t (p := runT S x) (Or.inl (bi_n h1))] at hq; exact hq
  · rw [bc_t (p := runT S x) (Or.inr (Or.inl (bi_n h2)))] at hq; exact hq
  · rw [bc_t (p := runT S x) (Or.inr (Or.inr (Or.inl (bi_n h3))))] at hq; exact hq
  · rw [h.P] at h4
    rw [bc_f (p := runT S x) (fun a => a.elim (bi_0.mp h1) (fun a => a.elim (bi_0.mp h2) (fun a => a.elim (bi_0.mp h3) (bi_0.mp h4))))] at hq; exact hq
  · rw [h.P] at h4
    rw [bc_t (p := runT S x) (Or.inr (Or.inr (Or.inr (bi_n h4))))] at hq; exact hq
/-- what run tells of the garden S, behind its years -/
def y_tell (S : gS) (x : Int32) : Int32 := if x = 0 then y_free S 6 0 0 else if x = 1 then y_low S 6 0 0 else if x = 2 then g_cnt (S 18) (-5) (gP S) 0 0 else if x = 3 then g_cnt (S 18) (-1) (gP S) 0 0 else if x = 4 then y_well S
  else if x < 20 then S 14 (x - 10).toNatClampNeg else if x < 30 then wI S (x - 20).toNatClampNeg else S 18 (x - 30).toNatClampNeg
theorem rT_n {x : Int32} (hg : gw S n) (h : runT S x) : (0 ≤ x ∧ x ≤ 4) ∨ (∃ k, k < 6 ∧ x = nI (10 + k)) ∨ (∃ k, k < 6 ∧ x = nI (20 + k)) ∨ (∃ k, k < gP S ∧ x = nI (30 + k)) := by
  have h8 := hg.1
  have e10 : (10 : Int32).toInt = 10 := by decide
  have e15 : (15 : Int32).toInt = 15 := by decide
  have e20 : (20 : Int32).toInt = 20 := by decide
  have e25 : (25 : Int32).toInt = 25 := by decide
  have e30 : (30 : Int32).toInt = 30 := by decide
  have e29 : (29 : Int32).toInt = 29 := by decide
  rcases h with h | h | h | h
  · exact Or.inl h
  · right; left
    rw [i_le, i_le, e10, e15] at h
    exact ⟨(x.toInt - 10).toNat, by omega, by rw [i_eq, nI_toInt (by omega)]; omega⟩
  · right; right; left
    rw [i_le, i_le, e20, e25] at h
    exact ⟨(x.toInt - 20).toNat, by omega, by rw [i_eq, nI_toInt (by omega)]; omega⟩
  · right; right; right
    rw [i_le, i_le, e30, i_add (by rw [e29, nI_toInt (by omega)]; omega) (by rw [e29, nI_toInt (by omega)]; omega), e29, nI_toInt (by omega)] at h
    exact ⟨(x.toInt - 30).toNat, by omega, by rw [i_eq, nI_toInt (by omega)]; omega⟩
theorem tell_1 {k : Nat} (hk : k < 6) : y_tell S (nI (10 + k)) = S 14 k ∧ nI (10 + k) / 10 = 1 ∧ nI (10 + k) - nI (10 + k) / 10 * 10 = nI k := by
  rcases (show k = 0 ∨ k = 1 ∨ k = 2 ∨ k = 3 ∨ k = 4 ∨ k = 5 by omega) with rfl | rfl | rfl | rfl | rfl | rfl <;> exact ⟨rfl, by decide, by decide⟩
theorem tell_2 {k : Nat} (hk : k < 6) : y_tell S (nI (20 + k)) = wI S k ∧ nI (20 + k) / 10 = 2 ∧ nI (20 + k) - nI (20 + k) / 10 * 10 = nI k := by
  rcases (show k = 0 ∨ k = 1 ∨ k = 2 ∨ k = 3 ∨ k = 4 ∨ k = 5 by omega) with rfl | rfl | rfl | rfl | rfl | rfl <;> exact ⟨rfl, by decide, by decide⟩
theorem tell_3 {k : Nat} (hk : k < 8) : y_tell S (nI (30 + k)) = S 18 k ∧ nI (30 + k) / 10 = 3 ∧ nI (30 + k) - nI (30 + k) / 10 * 10 = nI k := by
  rcases (show k = 0 ∨ k = 1 ∨ k = 2 ∨ k = 3 ∨ k = 4 ∨ k = 5 ∨ k = 6 ∨ k = 7 by omega) with rfl | rfl | rfl | rfl | rfl | rfl | rfl | rfl <;> exact ⟨rfl, by decide, by decide⟩
theorem gP_ys {V : Nat → Nat → (Nat → Int32) → Int32} : ∀ (m : Nat) (S : gS), gP (y_ys V m S) = gP S
  | 0, _ => rfl
  | m + 1, S => by
    rw [y_ys, gP_ys m]
    unfold y_year
    have e4 : ∀ (S4 : gS) (v : Int32), gP (upS S4 2 2 v) = gP S4 := fun S4 v => by unfold gP upS; rw [if_neg (by decide)]
    rw [e4, gP_l (fun S k => gP_hand), gP_l (fun S k => gP_wait), gP_l (fun S k => gP_w), gP_l (fun S k => gP_grow)]
theorem nI_small {k : Nat} {x : Int32} (h : 0 ≤ x ∧ x ≤ 4) : x = 0 ∨ x = 1 ∨ x = 2 ∨ x = 3 ∨ x = 4 := by
  obtain ⟨h1, h2⟩ := h
  have e4 : (4 : Int32).toInt = 4 := by decide
  have e3 : (3 : Int32).toInt = 3 := by decide
  rw [i_le, i_0] at h1
  rw [i_le, e4] at h2
  rw [i_eq, i_eq (x := x) (y := 1), i_eq (x := x) (y := 2), i_eq (x := x) (y := 3), i_eq (x := x) (y := 4), i_0, i_1, i_2, e3, e4]
  omega
set_option maxHeartbeats 2000000 in
theorem p_run {y x : Int32} (h : cg μ n e S) (hbad : ¬ ((0 ≤ y ∧ y ≤ 30) ∧ runT S x) → Q (some (.inl (-2))) μ) (hq : ∀ N, N ≤ 30 → y = nI N → runT S x → ∀ μ', sx μ μ' → Q (some (.inl (y_tell (y_ys (y_V (μ.1 10 0) e) N S) x))) μ') : si_W sc (d + 7) 94 0 [some (.inr (.inr (6, 0))), some (.inl y), some (.inl x), none] [] μ Q := by
  refine k_X6_run_0 (p_isSpan (k_X6_run_4 ⟨fun hz => hbad (fun a => bi_0.mp hz a.1), fun hz => p_mayRunTell h (k_X6_run_12 ⟨fun hy => ?_, fun hy => hbad (fun a => bc_0 hy a.2)⟩)⟩))
  obtain ⟨N, hN, rfl⟩ := sp_n (bi_n hz)
  have hT := bc_n hy
  refine p_wellAsNow (by omega) h fun μ1 m1 s1 => ?_
  have hq1 := hq N hN rfl hT μ1 s1
  generalize hS : y_ys (y_V (μ.1 10 0) e) N S = S1 at m1 hq1
  have g1 : gw S1 n := by rw [← hS]; exact gw_ys N S h.2.2.1
  have hP := g1.2.1
  have eP : gP S1 = gP S := by rw [← hS]; exact gP_ys N S
  have h8 := g1.1
  rw [← m1.1, vw_at (a := 2) (by decide), m1.1] at hP
  have r18 : μ1.1 18 1 = S1 18 := by rw [← m1.1, vw_at (by decide)]
  have r14 : μ1.1 14 1 = S1 14 := by rw [← m1.1, vw_at (by decide)]
  rcases rT_n h.2.2.1 hT with hx | ⟨k, hk, rfl⟩ | ⟨k, hk, rfl⟩ | ⟨k, hk, rfl⟩
  · rcases nI_small (k := 0) hx with rfl | rfl | rfl | rfl | rfl
    · refine k_X6_run_23 ⟨fun _ => p_freeStrips hP h8 (k_X6_run_67 ?_), fun hz => absurd rfl hz⟩
      rw [m1.1]; exact hq1
    · refine k_X6_run_23 ⟨fun hz => absurd hz (by decide), fun _ => ⟨fun _ => p_below (k_X6_run_75 ?_), fun hz => absurd rfl hz⟩⟩
      rw [m1.1]; exact hq1
    · refine k_X6_run_23 ⟨fun hz => absurd hz (by decide), fun _ => ⟨fun hz => absurd hz (by decide), fun _ => ⟨fun _ => p_peopleAt hP h8 (k_X6_run_85 ?_), fun hz => absurd rfl hz⟩⟩⟩
      rw [r18]; exact hq1
    · refine k_X6_run_23 ⟨fun hz => absurd hz (by decide), fun _ => ⟨fun hz => absurd hz (by decide), fun _ => ⟨fun hz => absurd hz (by decide), fun _ => ⟨fun _ => p_peopleAt hP h8 (k_X6_run_94 ?_), fun hz => absurd rfl hz⟩⟩⟩⟩
      rw [r18]; exact hq1
    · refine k_X6_run_23 ⟨fun hz => absurd hz (by decide), fun _ => ⟨fun hz => absurd hz (by decide), fun _ => ⟨fun hz => absurd hz (by decide), fun _ => ⟨fun hz => absurd hz (by decide), fun _ => ⟨fun _ => ?_, fun hz => absurd rfl hz⟩⟩⟩⟩⟩
      exact hq1
  · have ht := tell_1 (S := S1) hk
    rw [ht.1] at hq1
    refine k_X6_run_23 ⟨fun hz => absurd hz (nI_d (by omega) (by decide)), fun _ => ⟨fun hz => absurd hz (nI_d (by omega) (by decide)), fun _ => ⟨fun hz => absurd hz (nI_d (by omega) (by decide)), fun _ => ⟨fun hz => absurd hz (nI_d (by omega) (by decide)), fun _ => ⟨fun hz => absurd hz (nI_d (by omega) (by decide)), fun _ => ⟨by decide, by decide, ?_⟩⟩⟩⟩⟩⟩
    rw [ht.2.2, ht.2.1]
    refine k_X6_ranTo_0 ⟨fun _ => p_isStrip (k_X6_ranTo_32 ⟨fun hb => absurd ?_ (bi_0.mp hb), fun _ => ⟨vp_in_nI hk (by omega), k_X6_run_109 ?_⟩⟩), fun hn => absurd rfl hn⟩
    · rw [i_le, i_le, i_0, nI_toInt (by omega)]
      have e5 : (5 : Int32).toInt = 5 := by decide
      rw [e5]; omega
    · rw [nI_c (by omega), r14]; exact hq1
  · have ht := tell_2 (S := S1) hk
    rw [ht.1] at hq1
    refine k_X6_run_23 ⟨fun hz => absurd hz (nI_d (by omega) (by decide)), fun _ => ⟨fun hz => absurd hz (nI_d (by omega) (by decide)), fun _ => ⟨fun hz => absurd hz (nI_d (by omega) (by decide)), fun _ => ⟨fun hz => absurd hz (nI_d (by omega) (by decide)), fun _ => ⟨fun hz => absurd hz (nI_d (by omega) (by decide)), fun _ => ⟨by decide, by decide, ?_⟩⟩⟩⟩⟩⟩
    rw [ht.2.2, ht.2.1]
    refine k_X6_ranTo_0 ⟨fun hn => absurd hn (by decide), fun _ => ⟨fun _ => p_holder hP h8 (k_X6_ranTo_58 (k_X6_run_109 ?_)), fun hn => absurd rfl hn⟩⟩
    rw [r18]; exact hq1
  · have ht := tell_3 (S := S1) (k := k) (by omega)
    rw [ht.1] at hq1
    refine k_X6_run_23 ⟨fun hz => absurd hz (nI_d (by omega) (by decide)), fun _ => ⟨fun hz => absurd hz (nI_d (by omega) (by decide)), fun _ => ⟨fun hz => absurd hz (nI_d (by omega) (by decide)), fun _ => ⟨fun hz => absurd hz (nI_d (by omega) (by decide)), fun _ => ⟨fun hz => absurd hz (nI_d (by omega) (by decide)), fun _ => ⟨by decide, by decide, ?_⟩⟩⟩⟩⟩⟩
    rw [ht.2.2, ht.2.1]
    refine k_X6_ranTo_0 ⟨fun hn => absurd hn (by decide), fun _ => ⟨fun hn => absurd hn (by decide), fun _ => p_isPerson hP h8 (k_X6_ranTo_67 ⟨fun hb => absurd ?_ (bi_0.mp hb), fun _ => ⟨vp_in_nI (by omega) (by omega), k_X6_run_109 ?_⟩⟩)⟩⟩
    · exact ⟨nI_pos' (by omega), (nI_lt8 (by omega) (by omega)).mpr (by omega)⟩
    · rw [nI_c (by omega), r18]; exact hq1
end PT
