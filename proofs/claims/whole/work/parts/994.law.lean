/-! the law's loop -/
theorem cmp_rf (x : Int64) : lg_cmp x x = 0 := by
  unfold lg_cmp
  simp
theorem vw_rf {μ μ' : si_Mm} {g : Nat} (h : rf μ μ') : vw μ' g = vw μ g := by
  funext a
  unfold vw
  by_cases e : gt a = true
  · rw [if_pos e, if_pos e]
    refine h a g ?_
    cases hc : rT a with
    | false => rfl
    | true => exact absurd e (rT_gt hc)
  · rw [if_neg e, if_neg e]
section LW
variable {sc : si_Sc} {d : Nat} {μ μ' : si_Mm} {n : Nat} {V : VT} {S : gS} {K : Option gS} {R : shT} {zz : Nat} {f : Nat → Int32}
theorem CI.kr (h : CI μ n V S K R zz f) (hr : rf μ μ') : CI μ' n V S K R zz f := by
  obtain ⟨e, h1, h2, h3, h4, h5, h6, h7⟩ := h
  have r : ∀ a, rT a = false → μ'.1 a 0 = μ.1 a 0 := fun a ha => hr a 0 ha
  refine ⟨e, ⟨⟨h1.1.1, fun k hk => ?_, h1.1.2.2⟩, (vw_rf hr).trans h1.2.1, h1.2.2.1, h1.2.2.2.1, ?_, ?_⟩, ?_, bkx_of (r _ (by decide)) h3, tp_of (r _ (by decide)) (r _ (by decide)) h4, CR_of (r _ (by decide)) (r _ (by decide)) (r _ (by decide)) h5, kp_of (r _ (by decide)) (vw_rf hr) h6, h7⟩
  · rw [r 11 (by decide)]; exact h1.1.2.1 k hk
  · rw [vw_rf hr]; exact h1.2.2.2.2.1
  · rw [vw_rf hr]; exact h1.2.2.2.2.2
  · rw [r 10 (by decide)]; exact h2
theorem RI.kc (h : RI μ n V S K R zz f) (hc : cf μ μ') : RI μ' n V S K R zz f := by
  obtain ⟨h1, h2, h3, h4, h5⟩ := h
  have r : ∀ a, rT a = true → μ'.1 a 0 = μ.1 a 0 := fun a ha => hc.1 a 0 ha
  have r7 : ∀ j, μ'.1 7 0 j = μ.1 7 0 j := fun j => by rw [r 7 (by decide)]
  exact ⟨⟨h1.1.of (fun j _ => r7 j) (r _ (by decide)) (r _ (by decide)) (r _ (by decide)) (fun k _ => by rw [r 35 (by decide)]) h1.2.1.1, h1.2.1, h1.2.2.1, h1.2.2.2.1, h1.2.2.2.2.1.of (r _ (by decide)) (r _ (by decide)), h1.2.2.2.2.2⟩, (r7 3).trans h2, ⟨(r7 6).trans h3.1, h3.2.1, fun i hi => by rw [r 31 (by decide)]; exact h3.2.2 i hi⟩, h4.of (r _ (by decide)) (r _ (by decide)) (r _ (by decide)) (r _ (by decide)), h5.of (fun j _ => r7 j) (r _ (by decide)) (r _ (by decide)) (r _ (by decide)) ⟨Nat.le_refl _, fun _ _ => rfl⟩⟩
set_option maxHeartbeats 4000000 in
theorem law_go (hsc : sc.1 ≤ 3072) : ∀ (m a : Nat) (μ : si_Mm) (n : Nat) (V : VT) (S : gS) (K : Option gS) (R : shT) (zz : Nat) (f : Nat → Int32), a ≤ 3078 → sc.1 < a + 6 * m + 6 → CI μ n V S K R zz f → RI μ n V S K R zz f → si_W sc 100 234 18 [some (.inr (.inr (92, 0))), some (.inr (.inr (6, 0))), some (.inr (.inr (7, 0))), some (.inl (nI a))] [] μ (fun r _ => r = some (.inl 1)) := by
  intro m
  induction m with
  | zero =>
    intro a μ n V S K R zz f ha hm hC hR
    refine k_L_law_18 ⟨fun _ => ⟨b1, rfl⟩, fun hn => absurd ?_ hn⟩
    have e6 : (6 : Int32).toInt = 6 := by decide
    have es : (Int32.ofNat sc.1).toInt = sc.1 := nI_toInt (by omega)
    rw [i_lt, i_sub (by rw [es, e6]; omega) (by rw [es, e6]; omega), es, e6, nI_toInt (by omega)]
    omega
  | succ m ih =>
    intro a μ n V S K R zz f ha hm hC hR
    refine k_L_law_18 ⟨fun _ => ⟨b1, rfl⟩, fun hn => ?_⟩
    have e6 : (6 : Int32).toInt = 6 := by decide
    have es : (Int32.ofNat sc.1).toInt = sc.1 := nI_toInt (by omega)
    rw [i_lt, i_sub (by rw [es, e6]; omega) (by rw [es, e6]; omega), es, e6, nI_toInt (by omega)] at hn
    have ad : ∀ k : Nat, nI a + nI k = nI (a + k) := fun k => nI_add a k
    have v0 : vp_in (nI a) sc.1 := vp_in_nI (by omega) (by omega)
    have v1 : vp_in (nI a + 1) sc.1 := by rw [show (1 : Int32) = nI 1 from rfl, ad]; exact vp_in_nI (by omega) (by omega)
    have v2 : vp_in (nI a + 2) sc.1 := by rw [show (2 : Int32) = nI 2 from rfl, ad]; exact vp_in_nI (by omega) (by omega)
    have v3 : vp_in (nI a + 3) sc.1 := by rw [show (3 : Int32) = nI 3 from rfl, ad]; exact vp_in_nI (by omega) (by omega)
    have v4 : vp_in (nI a + 4) sc.1 := by rw [show (4 : Int32) = nI 4 from rfl, ad]; exact vp_in_nI (by omega) (by omega)
    have v5 : vp_in (nI a + 5) sc.1 := by rw [show (5 : Int32) = nI 5 from rfl, ad]; exact vp_in_nI (by omega) (by omega)
    have nx : ∀ {μ : si_Mm} {n : Nat} {V : VT} {S : gS} {K : Option gS} {R : shT} {zz : Nat} {f : Nat → Int32}, CI μ n V S K R zz f → RI μ n V S K R zz f → si_W sc (99 + 1) 234 18 [some (.inr (.inr (92, 0))), some (.inr (.inr (6, 0))), some (.inr (.inr (7, 0))), some (.inl (nI a + 6))] [] μ (fun r _ => r = some (.inl 1)) := fun hC hR => by
      rw [show (6 : Int32) = nI 6 from rfl, ad]
      exact ih (a + 6) _ _ _ _ _ _ _ _ (by omega) (by omega) hC hR
    generalize sc.2 (nI a).toNatClampNeg &&& 31 = q
    refine ⟨v0, fun _ => ⟨v1, v2, v3, ?_⟩, fun _ => ⟨fun _ => ⟨v1, v2, ?_⟩, fun _ => ⟨fun _ => ⟨v1, v2, ?_⟩, fun _ => ⟨fun _ => ⟨v1, v2, ?_⟩, fun _ => ⟨fun _ => ⟨v1, ?_⟩, fun _ => ⟨fun _ => ⟨v1, ?_⟩, fun _ => ⟨fun _ => ⟨v1, ?_⟩, fun _ => ⟨fun _ => ?_, fun _ => ⟨fun _ => ⟨v1, ?_⟩, fun _ => ⟨fun _ => ?_, fun _ => ⟨fun _ => ⟨v1, v2, ?_⟩, fun _ => ⟨fun _ => ⟨v1, ?_⟩, fun _ => ⟨fun _ => ⟨v1, v2, ?_⟩, fun _ => ⟨fun _ => ⟨v1, v2, v3, ?_⟩, fun _ => ⟨fun _ => ⟨v1, v2, ?_⟩, fun _ => ⟨fun _ => ⟨v1, v2, ?_⟩, fun _ => ⟨fun _ => ⟨v1, v2, ?_⟩, fun _ => ⟨fun _ => ⟨v1, v2, v3, ?_⟩, fun _ => ⟨fun _ => ⟨v1, v2, v3, ?_⟩, fun _ => ⟨fun _ => ⟨v1, v2, ?_⟩, fun _ => ⟨fun _ => ⟨v1, v2, v3, v4, ?_⟩, fun _ => ⟨fun _ => ?_, fun _ => ⟨fun _ => ?_, fun _ => ⟨fun _ => ⟨v1, ?_⟩, fun _ => ⟨fun _ => ⟨v1, v2, v3, ?_⟩, fun _ => ⟨fun _ => ⟨v1, v2, v3, ?_⟩, fun _ => ⟨fun _ => ⟨v1, v2, v3, v4, v5, ?_⟩, fun _ => ⟨fun _ => ⟨v1, v2, v3, v4, ?_⟩, fun _ => ⟨fun _ => ⟨v1, v2, ?_⟩, fun _ => nx hC hR⟩⟩⟩⟩⟩⟩⟩⟩⟩⟩⟩⟩⟩⟩⟩⟩⟩⟩⟩⟩⟩⟩⟩⟩⟩⟩⟩⟩⟩
    · exact cc_set hC fun μ1 c1 C1 => k_L_law_183 ⟨v1, v2, v3, rc_set (hR.kc c1) C1.gw C1.gr fun μ2 r2 R2 => k_L_law_202 ⟨fun _ => nx (C1.kr r2) R2, fun ne => absurd rfl ne⟩⟩
    · exact cc_tenant hC fun μ1 c1 C1 => k_L_law_221 ⟨v1, v2, rc_tenant (hR.kc c1) fun μ2 r2 R2 => k_L_law_235 ⟨fun _ => nx (C1.kr r2) R2, fun ne => absurd rfl ne⟩⟩
    · exact cc_told hC fun μ1 c1 C1 => k_L_law_254 ⟨v1, v2, rc_told (hR.kc c1) fun μ2 r2 R2 => k_L_law_268 ⟨fun _ => nx (C1.kr r2) R2, fun ne => absurd rfl ne⟩⟩
    · exact cc_give hC fun μ1 c1 C1 => k_L_law_287 ⟨v1, v2, rc_give (hR.kc c1) fun μ2 r2 R2 => k_L_law_301 ⟨fun _ => nx (C1.kr r2) R2, fun ne => absurd rfl ne⟩⟩
    · exact cc_off hC fun μ1 c1 C1 => k_L_law_315 ⟨v1, rc_off (hR.kc c1) C1.gw C1.gr fun μ2 r2 R2 => k_L_law_324 ⟨fun _ => nx (C1.kr r2) R2, fun ne => absurd rfl ne⟩⟩
    · exact cc_list hC fun μ1 c1 C1 => k_L_law_338 ⟨v1, rc_list (hR.kc c1) fun μ2 r2 R2 => k_L_law_347 ⟨fun _ => nx (C1.kr r2) R2, fun ne => absurd rfl ne⟩⟩
    · exact cc_feed hC fun μ1 c1 C1 => k_L_law_361 ⟨v1, rc_feed (hR.kc c1) fun μ2 r2 R2 => k_L_law_370 ⟨fun _ => nx (C1.kr r2) R2, fun ne => absurd rfl ne⟩⟩
    · refine cc_text hC (fun e => k_L_law_379 (rc_text hR (fun _ => k_L_law_383 ⟨fun _ => nx hC hR, fun ne => absurd rfl ne⟩) (fun _ _ _ _ hn _ => absurd hn (by omega)) (fun _ hn _ => absurd hn (by omega)))) (fun k' c0 c1 c2 hn eq μ1 V' f1 C1 ag nw => k_L_law_379 (rc_text (hR.kc f1) (fun e => absurd hn (by omega)) (fun k2 d0 d1 d2 _ eq2 μ2 r2 R2 => ?_) (fun k2 _ eq2 => ?_))) (fun k' hn eq μ1 V' f1 C1 ag => k_L_law_379 (rc_text (hR.kc f1) (fun e => absurd hn (by omega)) (fun k2 d0 d1 d2 _ eq2 => ?_) (fun k2 _ eq2 μ2 r2 R2 => ?_)))
      · rw [eq] at eq2
        cases eq2
        exact k_L_law_383 ⟨fun _ => nx (C1.kr r2) (R2 V' C1.vr ag nw), fun ne => absurd rfl ne⟩
      · rw [eq] at eq2; cases eq2
      · rw [eq] at eq2; cases eq2
      · rw [eq] at eq2
        cases eq2
        exact k_L_law_383 ⟨fun _ => nx (C1.kr r2) (R2 V' C1.vr ag), fun ne => absurd rfl ne⟩
    · exact cc_force hC fun μ1 c1 C1 => k_L_law_397 ⟨v1, rc_force (hR.kc c1) C1.gw C1.gr fun μ2 r2 R2 => k_L_law_406 ⟨fun _ => nx (C1.kr r2) R2, fun ne => absurd rfl ne⟩⟩
    · exact cc_year hC fun μ1 c1 C1 => k_L_law_415 (rc_year (hR.kc c1) hC.yr fun μ2 r2 R2 => k_L_law_419 ⟨fun _ => nx (C1.kr r2) R2, fun ne => absurd rfl ne⟩)
    · exact cc_run hC fun μ1 c1 C1 => k_L_law_438 ⟨v1, v2, rc_run (hR.kc c1) fun μ2 r2 R2 => k_L_law_452 ⟨fun _ => nx (C1.kr r2) R2, fun ne => absurd rfl ne⟩⟩
    · exact cc_takes hC fun μ1 c1 C1 => k_L_law_466 ⟨v1, rc_takes (hR.kc c1) fun μ2 r2 R2 => k_L_law_475 ⟨fun _ => nx (C1.kr r2) R2, fun ne => absurd rfl ne⟩⟩
    · exact cc_strict hC fun μ1 c1 C1 => k_L_law_494 ⟨v1, v2, rc_strict (hR.kc c1) fun μ2 r2 R2 => k_L_law_508 ⟨fun _ => nx (C1.kr r2) R2, fun ne => absurd rfl ne⟩⟩
    · exact cc_turn hC fun μ1 c1 C1 => k_L_law_532 ⟨v1, v2, v3, rc_turn (hR.kc c1) fun μ2 r2 R2 => k_L_law_551 ⟨fun _ => nx (C1.kr r2) R2, fun ne => absurd rfl ne⟩⟩
    · exact cc_drain hC fun μ1 c1 C1 => k_L_law_570 ⟨v1, v2, rc_drain (hR.kc c1) fun μ2 r2 R2 => k_L_law_584 ⟨fun _ => nx (C1.kr r2) R2, fun ne => absurd rfl ne⟩⟩
    · exact cc_strike hC fun μ1 c1 C1 => k_L_law_603 ⟨v1, v2, rc_strike (hR.kc c1) fun μ2 r2 R2 => k_L_law_617 ⟨fun _ => nx (C1.kr r2) R2, fun ne => absurd rfl ne⟩⟩
    · exact cc_chg hC fun μ1 c1 C1 => k_L_law_636 ⟨v1, v2, rc_chg (hR.kc c1) fun μ2 r2 R2 => k_L_law_650 ⟨fun _ => nx (C1.kr r2) R2, fun ne => absurd rfl ne⟩⟩
    · exact cc_tells hC fun μ1 c1 C1 => k_L_law_674 ⟨v1, v2, v3, rc_tells (hR.kc c1) fun μ2 r2 R2 => k_L_law_693 ⟨fun _ => nx (C1.kr r2) R2, fun ne => absurd rfl ne⟩⟩
    · exact cc_film hC fun μ1 c1 C1 => k_L_law_717 ⟨v1, v2, v3, rc_film (hR.kc c1) fun μ2 r2 R2 => k_L_law_736 ⟨fun _ => nx (C1.kr r2) R2, fun ne => absurd rfl ne⟩⟩
    · exact cc_drawn hC fun μ1 c1 C1 => k_L_law_755 ⟨v1, v2, rc_drawn (hR.kc c1) fun μ2 r2 R2 => k_L_law_769 ⟨fun _ => nx (C1.kr r2) R2, fun ne => absurd rfl ne⟩⟩
    · exact cc_chance hC fun μ1 c1 C1 => k_L_law_798 ⟨v1, v2, v3, v4, rc_chance (hR.kc c1) fun μ2 r2 R2 => k_L_law_822 ⟨fun _ => nx (C1.kr r2) R2, fun ne => absurd (cmp_rf _) ne⟩⟩
    · exact cc_image hC fun μ1 c1 C1 => k_L_law_832 (rc_image (hR.kc c1) fun μ2 r2 R2 => k_L_law_836 ⟨fun _ => nx (C1.kr r2) R2, fun ne => absurd rfl ne⟩)
    · exact cc_back hC fun μ1 c1 C1 => k_L_law_845 (rc_back (hR.kc c1) C1.gw C1.gr fun μ2 r2 R2 => k_L_law_849 ⟨fun _ => nx (C1.kr r2) R2, fun ne => absurd rfl ne⟩)
    · exact cc_count hC (k_L_law_863 ⟨v1, rc_count hR (k_L_law_872 ⟨fun _ => nx hC hR, fun ne => absurd rfl ne⟩)⟩)
    · exact cc_sheet hC fun μ1 c1 C1 => k_L_law_896 ⟨v1, v2, v3, rc_sheet (hR.kc c1) fun μ2 r2 R2 => k_L_law_915 ⟨fun _ => nx (C1.kr r2) R2, fun ne => absurd rfl ne⟩⟩
    · exact cc_cell hC fun μ1 c1 C1 => k_L_law_939 ⟨v1, v2, v3, rc_cell (hR.kc c1) fun μ2 r2 R2 => k_L_law_958 ⟨fun _ => nx (C1.kr r2) R2, fun ne => absurd rfl ne⟩⟩
    · exact cc_copy hC fun μ1 c1 C1 => k_L_law_992 ⟨v1, v2, v3, v4, v5, rc_copy (hR.kc c1) fun μ2 r2 R2 => k_L_law_1021 ⟨fun _ => nx (C1.kr r2) R2, fun ne => absurd rfl ne⟩⟩
    · exact cc_tenants hC fun μ1 c1 C1 => k_L_law_1050 ⟨v1, v2, v3, v4, rc_tenants (hR.kc c1) fun μ2 r2 R2 => k_L_law_1074 ⟨fun _ => nx (C1.kr r2) R2, fun ne => absurd rfl ne⟩⟩
    · exact cc_taken hC (k_L_law_1093 ⟨v1, v2, rc_taken hR (k_L_law_1107 ⟨fun _ => nx hC hR, fun ne => absurd rfl ne⟩)⟩)
theorem main_of {μ : si_Mm} (h : ∃ n V S K R zz f, CI μ n V S K R zz f ∧ RI μ n V S K R zz f) (hsc : sc.1 ≤ 3072) : si_W sc 100 234 16 [some (.inr (.inr (92, 0))), some (.inr (.inr (6, 0))), some (.inr (.inr (7, 0))), none] [] μ (fun r _ => r = some (.inl 1)) := by
  obtain ⟨n, V, S, K, R, zz, f, hC, hR⟩ := h
  exact k_L_law_16 (law_go hsc 600 0 μ n V S K R zz f (by omega) (by omega) hC hR)
end LW
