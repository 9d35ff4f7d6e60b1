/-! the reference: drawn, chance -/
def lgN (k : Nat) : Int64 := Int32.toInt64 (nI k)
theorem lg_1 : ∀ k, k ≤ 20 → lgN k + Int64.ofNat ((1 : Fin 2) : Nat) = lgN (k + 1) ∧ lgN k + Int64.ofNat ((0 : Fin 2) : Nat) = lgN k ∧ (lg_cmp (lgN k) (Int64.ofNat ((0 : Fin 2) : Nat)) = 0 ↔ k = 0) ∧ (lgN k = 0 ↔ k = 0) := by decide +kernel
theorem lg_m : ∀ a, a ≤ 20 → ∀ b, b ≤ 20 → b ≠ 0 → lgN a - lgN a / lgN b * lgN b = lgN (a % b) ∧ lgN a / lgN b = lgN (a / b) := by decide +kernel
theorem sd_g : ∀ h, h ≤ 20 → ∀ m, m ≤ 20 → m ≠ 0 → sdN h m m = Nat.gcd h m := by decide +kernel
theorem gc_s (a b : Nat) : Nat.gcd a b = Nat.gcd b (a % b) := by rw [Nat.gcd_comm a b, Nat.gcd_rec, Nat.gcd_comm]
theorem c594 : si_c64 23 = (594 : Int32).toInt64 := by decide +kernel
section RXc
variable {sc : si_Sc} {d : Nat} {μ μ' : si_Mm} {Q : si_Po} {n : Nat} {V : VT} {S S' : gS} {K : Option gS} {R R' : shT} {zz : Nat} {f : Nat → Int32} {w o v x y : Int32}
theorem wi_m {q : Int32} {k : Nat} (hr : gr S) (hk : k < 6) : (if S 14 k - dr_l q < 0 then 0 else if 99 < S 14 k - dr_l q then 99 else S 14 k - dr_l q) = mx0 (S 14 k - dr_l q) := by
  have z := hr 14 k
  rw [(hi_14 hk).1, (hi_14 hk).2] at z
  obtain ⟨j, hj, e⟩ := dr_n q
  rw [e, i_eq, within_i i_0 i_99, mx0_i, i_sub (by rw [nI_toInt (by omega)]; omega) (by rw [nI_toInt (by omega)]; omega), nI_toInt (by omega)]
  split
  · split <;> omega
  · split
    · omega
    · split <;> omega
theorem r_wellBy {N : Nat} (hN : N ≤ 1000) (h : RG μ n V S) (hq : ∀ μ', fw μ μ' → Q (some (.inl (y_wd V S x N))) μ') : si_W sc (d + 46) 223 0 [some (.inr (.inr (7, 0))), some (.inl x), some (.inl (nI N)), none, none, none] [] μ Q := by
  have in1 : ∀ (m k : Nat) (z : Int32) (S1 : gS) (μ1 : si_Mm) (kk : Int32), k + m = 6 → TH μ μ1 → RG μ1 n V S1 → (∀ μ2, TH μ μ2 → RG μ2 n V (y_dr1 m k z S1).2 → si_W sc (d + 45) 200 0 [some (.inr (.inr (7, 0))), none] [] μ2 (fun rv μq => si_W sc (d + 46) 223 73 [some (.inr (.inr (7, 0))), some (.inl x), some (.inl (nI N)), some (.inl (y_dr1 m k z S1).1), some (.inl kk), some (.inl (nI 6))] (si_rt rv []) μq Q)) → si_W sc (d + 46) 223 18 [some (.inr (.inr (7, 0))), some (.inl x), some (.inl (nI N)), some (.inl z), some (.inl kk), some (.inl (nI k))] [] μ1 Q := by
    intro m
    induction m with
    | zero =>
      intro k z S1 μ1 kk hk t1 h1 hq
      have ek : k = 6 := by omega
      subst ek
      exact k_X7_wellBy_18 ⟨fun _ => hq μ1 t1 h1, fun hn => absurd ((n6 (by omega)).mpr (by omega)) hn⟩
    | succ m ih =>
      intro k z S1 μ1 kk hk t1 h1 hq
      have ck : (nI k).toNatClampNeg = k := nI_c (by omega)
      refine k_X7_wellBy_18 ⟨fun hn => absurd ((n6 (by omega)).mp hn) (by omega), fun _ => ⟨vp_in_nI (by omega) (by omega), by decide, r_within (k_X7_wellBy_62 ⟨vp_in_nI (by omega) (by omega), ?_⟩)⟩⟩
      rw [ck, (h1.1.2.2.2.2.2.1 k (by omega)).1, nI_1]
      have e : (if S1 14 k - dr_l (dr_z z) < 0 then 0 else if 99 < S1 14 k - dr_l (dr_z z) then 99 else S1 14 k - dr_l (dr_z z)) = mx0 (S1 14 k - dr_l (dr_z z)) := wi_m h1.2.2.1 (by omega)
      have g2 := gwr_dr (q := dr_z z) h1.2.1 h1.2.2.1 (show k < 6 by omega)
      have h2 : RG (si_ms μ1 35 0 k (mx0 (S1 14 k - dr_l (dr_z z)))) n V (upS S1 14 k (mx0 (S1 14 k - dr_l (dr_z z)))) := h1.m (h1.1.r14 (by omega)) g2.1 g2.2 (by omega)
      have t2 : TH μ (si_ms μ1 35 0 k (mx0 (S1 14 k - dr_l (dr_z z)))) := t1.g fx.c
      rw [← e] at h2 t2
      rw [y_dr1, ← e] at hq
      exact ih (k + 1) (dr_z z) _ _ kk (by omega) t2 h2 hq
  have lp : ∀ (m k : Nat) (z : Int32) (S1 : gS) (μ1 : si_Mm) (u : Option si_AV), k + m = N → TH μ μ1 → RG μ1 n V S1 → (∀ μ', fw μ μ' → Q (some (.inl (y_well (y_drn V m z S1)))) μ') → si_W sc (d + 46) 223 9 [some (.inr (.inr (7, 0))), some (.inl x), some (.inl (nI N)), some (.inl z), some (.inl (nI k)), u] [] μ1 Q := by
    intro m
    induction m with
    | zero =>
      intro k z S1 μ1 u hk t1 h1 hq
      refine k_X7_wellBy_9 ⟨fun _ => r_well h1 (k_X7_wellBy_83 (r_back1 t1 fun μ' f' _ => k_X7_wellBy_89 (hq μ' f'))), fun hn => absurd ?_ hn⟩
      rw [nI_le8 (by omega) (by omega)]; omega
    | succ m ih =>
      intro k z S1 μ1 u hk t1 h1 hq
      rw [y_drn] at hq
      refine k_X7_wellBy_9 ⟨fun hn => ?_, fun _ => in1 6 0 z S1 μ1 (nI k) (by omega) t1 h1 fun μ2 t2 h2 => r_lives h2 fun μ3 f3 h3 => k_X7_wellBy_73 ?_⟩
      · rw [nI_le8 (by omega) (by omega)] at hn; omega
      · rw [nI_1]
        exact ih (k + 1) _ _ μ3 _ (by omega) (t2.g f3) h3 hq
  exact k_X7_wellBy_0 (r_aside h fun μ1 t1 h1 => k_X7_wellBy_4 (lp N 0 x S μ1 none (by omega) t1 h1 hq))
theorem rc_drawn (h : RI μ n V S K R zz f) (hq : ∀ μ', rf μ μ' → RI μ' n V S K R zz f → Q (some (.inl (A_drawn V S x y))) μ') : si_W sc (d + 47) 224 0 [some (.inr (.inr (7, 0))), some (.inl x), some (.inl y)] [] μ Q := by
  unfold A_drawn at hq
  refine k_X7_drawn_0 (r_in l0 c30_ (k_X7_drawn_9 ⟨fun c => ?_, fun c => ?_⟩))
  · rw [ic_f (bc_0 c)] at hq; exact hq μ rf.refl h
  · rw [ic_t (bc_n c)] at hq
    obtain ⟨N, hN, rfl⟩ := sp_n (bc_n c)
    rw [tN N hN] at hq
    exact r_wellBy (by omega) h.1 fun μ' f' => k_X7_drawn_18 (hq μ' (rf_of f'.t.o) (h.t f'.t))
theorem rc_chance {p : Int32} (h : RI μ n V S K R zz f) (hq : ∀ μ', rf μ μ' → RI μ' n V S K R zz f → Q (some (.inr (.inl (A_chance V S x w y p)))) μ') : si_W sc (d + 47) 225 0 [some (.inr (.inr (7, 0))), some (.inl x), some (.inl w), some (.inl y), some (.inl p), none, none, none, none, none, none, none, none] [] μ Q := by
  unfold A_chance at hq
  have hbad : ¬ okC w y p → Q (some (.inr (.inl (si_c64 0)))) μ := fun c => by rw [ic_f c] at hq; exact hq μ rf.refl h
  refine k_X7_chance_0 (r_in l1 c20_ (k_X7_chance_9 ⟨fun c => hbad (fun a => bc_0 c a.1), fun c => r_in l0 c594 (k_X7_chance_21 ⟨fun c2 => hbad (fun a => bc_0 c2 a.2.1), fun c2 => r_in l0 l1 (k_X7_chance_32 ⟨fun c3 => ?_, fun c3 => hbad (fun a => bc_0 c3 a.2.2)⟩)⟩)⟩))
  have hok : okC w y p := ⟨bc_n c, bc_n c2, bc_n c3⟩
  rw [ic_t hok] at hq
  have hk := rg_n (A := 20) (lo := 1) (hi := 20) (by decide) (by decide) hok.1
  generalize w.toNatClampNeg = m at hk hq
  obtain ⟨hm, rfl, hm1⟩ := hk
  have hm0 : m ≠ 0 := by
    rw [i_1] at hm1; omega
  have eu : ∀ (b : Nat), ∀ (a hh : Nat) (μ1 : si_Mm) (u : Option si_AV), a ≤ 20 → b ≤ 20 → hh ≤ 20 → Nat.gcd a b = Nat.gcd hh m → Q (some (.inr (.inl (c_frac hh m p)))) μ1 → si_W sc (d + 47) 225 89 [some (.inr (.inr (7, 0))), some (.inl x), some (.inl (nI m)), some (.inl y), some (.inl p), some (.inr (.inl (lgN hh))), none, some (.inr (.inl (lgN a))), none, some (.inr (.inl (lgN b))), none, u, none] [] μ1 Q := by
    intro b
    induction b using Nat.strongRecOn with
    | _ b ih =>
      intro a hh μ1 u ha hb hh20 hg hq
      refine k_X7_chance_89 ?_
      by_cases b0 : b = 0
      · subst b0
        rw [Nat.gcd_zero_right] at hg
        have gp : a ≠ 0 := by
          rw [hg]; exact Nat.ne_of_gt (Nat.gcd_pos_of_pos_right hh (Nat.pos_of_ne_zero hm0))
        have na : ¬ lgN a = 0 := fun e => gp ((lg_1 a ha).2.2.2.mp e)
        unfold c_frac at hq
        rw [sd_g hh hh20 m hm hm0, ← hg] at hq
        refine ⟨fun _ => ⟨fun p0 => ⟨na, ?_⟩, fun p0 => ⟨na, ?_⟩⟩, fun e => absurd ((lg_1 0 (by omega)).2.2.1.mpr rfl) e⟩
        · rw [if_neg p0] at hq
          have z := (lg_m m hm a ha gp).2
          unfold lgN at z ⊢
          rw [z]; exact hq
        · rw [if_pos p0] at hq
          rw [(lg_m hh hh20 a ha gp).2]; exact hq
      · refine ⟨fun e => absurd ((lg_1 b hb).2.2.1.mp e) b0, fun _ => ⟨fun e => b0 ((lg_1 b hb).2.2.2.mp e), ?_⟩⟩
        rw [(lg_m a ha b hb b0).1]
        have lt : a % b < b := Nat.mod_lt _ (Nat.pos_of_ne_zero b0)
        exact ih (a % b) lt b hh μ1 _ hb (by omega) hh20 ((gc_s a b).symm.trans hg) hq
  have lp : ∀ (r i hh : Nat) (μ1 : si_Mm), i + r = m → hh ≤ i → rf μ μ1 → RI μ1 n V S K R zz f → (∀ μ', rf μ μ' → RI μ' n V S K R zz f → Q (some (.inr (.inl (c_frac (y_hits V S x y r i hh) m p)))) μ') → si_W sc (d + 47) 225 45 [some (.inr (.inr (7, 0))), some (.inl x), some (.inl (nI m)), some (.inl y), some (.inl p), some (.inr (.inl (lgN hh))), none, some (.inl (nI i)), none, none, none, none, none] [] μ1 Q := by
    intro r
    induction r with
    | zero =>
      intro i hh μ1 hi hhi r1 h1 hq
      refine k_X7_chance_45 ⟨fun _ => eu m hh hh μ1 none (by omega) hm (by omega) rfl (hq μ1 r1 h1), fun hn => absurd ?_ hn⟩
      rw [nI_le8 (by omega) (by omega)]; omega
    | succ r ih =>
      intro i hh μ1 hi hhi r1 h1 hq
      rw [y_hits] at hq
      refine k_X7_chance_45 ⟨fun hn => ?_, fun _ => r_wellBy (N := 10) (by omega) h1.1 fun μ2 f2 => k_X7_chance_63 ⟨fun c => ?_, fun c => ?_⟩⟩
      · rw [nI_le8 (by omega) (by omega)] at hn; omega
      · rw [if_pos c] at hq
        rw [(lg_1 hh (by omega)).2.1, nI_1]
        exact ih (i + 1) hh μ2 (by omega) (by omega) (r1.tr (rf_of f2.t.o)) (h1.t f2.t) hq
      · rw [if_neg c] at hq
        rw [(lg_1 hh (by omega)).1, nI_1]
        exact ih (i + 1) (hh + 1) μ2 (by omega) (by omega) (r1.tr (rf_of f2.t.o)) (h1.t f2.t) hq
  exact lp m 0 0 μ (by omega) (Nat.le_refl _) rf.refl h hq
end RXc
