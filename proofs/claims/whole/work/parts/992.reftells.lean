/-! the reference: tells -/
theorem ft_cell2 {μ0 μ μ2 : si_Mm} {a k : Nat} {v w : Int32} (h : ft μ0 (si_ms μ a 0 k w)) (hv : μ0.1 a 0 k = w) (g : ft (si_ms μ a 0 k v) μ2) : ft μ0 (si_ms μ2 a 0 k w) := by
  refine ⟨fun a' i j e1 e2 => ?_, fun k' hk => ?_⟩
  · rw [ms_eq]
    by_cases c : a' = a ∧ i = 0 ∧ j = k
    · rw [if_pos c, c.1, c.2.1, c.2.2]; exact hv.symm
    · rw [if_neg c, g.1 a' i j e1 e2, ms_eq, if_neg c]
      have q := h.1 a' i j e1 e2
      rw [ms_eq, if_neg c] at q; exact q
  · rw [ms_eq]
    by_cases c : 35 = a ∧ 0 = 0 ∧ k' = k
    · rw [if_pos c, c.2.2, c.1]; exact hv.symm
    · rw [if_neg c, g.2 k' hk, ms_eq, if_neg c]
      have q := h.2 k' hk
      rw [ms_eq, if_neg c] at q; exact q
/-- from the last downwards -/
noncomputable def dw (ok : Nat → Prop) (bt : Nat → Int32) : Nat → Int32 × Int32 × Int32 → Int32 × Int32 × Int32
  | 0, q => q
  | m + 1, q => dw ok bt m (ic (ok m) (q.1 + 1, nI m, q.2.2 ||| bt m) q)
noncomputable def wst (ok : Nat → Prop) (c : Nat) (q : Int32 × Int32 × Int32) : Int32 × Int32 × Int32 := ic (ok c) (q.1 + 1, (if q.2.1 = -1 then nI c else q.2.1), q.2.2 ||| (1 <<< (nI c &&& 31))) q
theorem wf_l {ok : Nat → Prop} : ∀ (m c : Nat) (q : Int32 × Int32 × Int32), y_wf ok (m + 1) c q = wst ok (c + m) (y_wf ok m c q)
  | 0, c, q => rfl
  | m + 1, c, q => by
    rw [y_wf, wf_l m (c + 1), y_wf, show c + 1 + m = c + (m + 1) by omega]
theorem dw_1 {ok : Nat → Prop} {bt : Nat → Int32} : ∀ (m : Nat) (q : Int32 × Int32 × Int32), m ≤ 1000 → (dw ok bt m q).1 = q.1 + (y_wf ok m 0 (0, -1, 0)).1 ∧ (dw ok bt m q).2.1 = if (y_wf ok m 0 (0, -1, 0)).2.1 = -1 then q.2.1 else (y_wf ok m 0 (0, -1, 0)).2.1
  | 0, q, _ => ⟨(Int32.add_zero _).symm, by rw [y_wf, if_pos rfl]; rfl⟩
  | m + 1, q, hm => by
    rw [dw, wf_l, Nat.zero_add]
    unfold wst
    have z := dw_1 (ok := ok) (bt := bt) m (ic (ok m) (q.1 + 1, nI m, q.2.2 ||| bt m) q) (by omega)
    by_cases c : ok m
    · rw [ic_t c] at z ⊢
      rw [ic_t c, z.1, z.2]
      dsimp only
      refine ⟨by rw [Int32.add_assoc, Int32.add_comm 1], ?_⟩
      by_cases e : (y_wf ok m 0 (0, -1, 0)).2.1 = -1
      · rw [if_pos e, if_neg (nI_neg1 (by omega))]
      · rw [if_neg e, if_neg e]
    · rw [ic_f c] at z ⊢
      rw [ic_f c]; exact z
theorem dw_2 {ok : Nat → Prop} : ∀ (m : Nat) (q : Int32 × Int32 × Int32), (dw ok (fun c => 1 <<< (nI c &&& 31)) m q).2.2 = q.2.2 ||| (y_wf ok m 0 (0, -1, 0)).2.2
  | 0, q => Int32.or_zero.symm
  | m + 1, q => by
    rw [dw, wf_l, Nat.zero_add]
    unfold wst
    have z := dw_2 (ok := ok) m (ic (ok m) (q.1 + 1, nI m, q.2.2 ||| (1 <<< (nI m &&& 31))) q)
    by_cases c : ok m
    · rw [ic_t c] at z ⊢
      rw [ic_t c, z]
      dsimp only
      rw [Int32.or_assoc, Int32.or_comm (1 <<< (nI m &&& 31))]
    · rw [ic_f c] at z ⊢
      rw [ic_f c]; exact z
section RXd
variable {sc : si_Sc} {d : Nat} {μ μ' : si_Mm} {Q : si_Po} {n : Nat} {V : VT} {S S' : gS} {K : Option gS} {R R' : shT} {zz : Nat} {f : Nat → Int32} {w o v x y : Int32}
theorem r_firstOther {t s : Nat} (h : RG μ n V S) (hR : RR μ R) (ht : t < 4) (hs : s < 6) (ne : R.1 t ≠ -1) (hq : ∀ μ', fw μ μ' → Q (some (.inl (y_fo V R t s (R.2.1 t) 0 S))) μ') : si_W sc (d + 46) 218 0 [some (.inr (.inr (7, 0))), some (.inl (nI t)), some (.inl (nI s)), none, none] [] μ Q := by
  have ct : (nI t).toNatClampNeg = t := nI_c (by omega)
  have cs : (nI s).toNatClampNeg = s := nI_c (by omega)
  have hin : vp_in (nI t) 4 := vp_in_nI (by omega) (by omega)
  obtain ⟨a1, _, a3⟩ := hR t ht
  obtain ⟨p1, p2, p3, p4⟩ := a3 ne
  have row : ∀ {μ1 : si_Mm}, TH μ μ1 → μ1.1 43 0 t = nI (R.2.1 t) ∧ ∀ i, i < R.2.1 t → μ1.1 44 0 (40 * t + i) = R.2.2 t i := fun t1 => ⟨(t1.1 43 0 t (by omega) rfl).trans p3, fun i hi => (t1.1 44 0 _ (by omega) rfl).trans (p4 i hi)⟩
  have stop : ∀ (a3 k : Nat) (μ1 : si_Mm), a3 ≤ 1000 → TH μ μ1 → k ≤ R.2.1 t → (∀ μ', fw μ μ' → Q (some (.inl (nI a3))) μ') → si_W sc (d + 46) 218 9 [some (.inr (.inr (7, 0))), some (.inl (nI t)), some (.inl (nI s)), some (.inl (nI a3)), some (.inl (nI k))] [] μ1 Q := fun a3 k μ1 h3 t1 hk hq => k_X7_firstOther_9 ⟨hin, fun _ => r_back1 t1 fun μ' f' _ => k_X7_firstOther_67 (hq μ' f'), fun _ => ⟨fun _ => r_back1 t1 fun μ' f' _ => k_X7_firstOther_67 (hq μ' f'), fun c => absurd c (nI_neg1 h3)⟩⟩
  have lp : ∀ (m k : Nat) (S1 : gS) (μ1 : si_Mm), k + m = R.2.1 t → TH μ μ1 → RG μ1 n V S1 → (∀ μ', fw μ μ' → Q (some (.inl (y_fo V R t s m k S1))) μ') → si_W sc (d + 46) 218 9 [some (.inr (.inr (7, 0))), some (.inl (nI t)), some (.inl (nI s)), some (.inl (-1)), some (.inl (nI k))] [] μ1 Q := by
    intro m
    induction m with
    | zero =>
      intro k S1 μ1 hk t1 h1 hq
      refine k_X7_firstOther_9 ⟨hin, fun _ => r_back1 t1 fun μ' f' _ => k_X7_firstOther_67 (hq μ' f'), fun hn => absurd ?_ hn⟩
      rw [ct, (row t1).1, nI_le8 (by omega) (by omega)]; omega
    | succ m ih =>
      intro k S1 μ1 hk t1 h1 hq
      rw [y_fo] at hq
      refine k_X7_firstOther_9 ⟨hin, fun hn => ?_, fun _ => ⟨fun c => absurd rfl c, fun _ => r_lives h1 fun μ2 f2 h2 => k_X7_firstOther_29 ?_⟩⟩
      · rw [ct, (row t1).1, nI_le8 (by omega) (by omega)] at hn; omega
      · have cc : (nI (40 * t + k)).toNatClampNeg = 40 * t + k := nI_c (by omega)
        have t2 := t1.g f2
        rw [n40x, cc, cs, (row t2).2 k (by omega), (h2.1.2.2.2.2.2.1 s hs).1, nI_1]
        refine ⟨vp_in_nI (by omega) (by omega), vp_in_nI (by omega) (by omega), fun c => ?_, fun c => ?_⟩
        · rw [if_neg c] at hq
          exact stop k (k + 1) μ2 (by omega) t2 (by omega) hq
        · rw [if_pos c] at hq
          exact ih (k + 1) _ μ2 (by omega) t2 h2 hq
  exact k_X7_firstOther_0 (r_aside h fun μ1 t1 h1 => k_X7_firstOther_4 (lp (R.2.1 t) 0 S μ1 (by omega) t1 h1 hq))
/-- one cell of the reference's garden is tried with the numbers below m -/
theorem r_fits {t s a k c m : Nat} {a3 a4 a6 old : Int32} {so : Nat} {bt : Nat → Int32} (h : RI μ n V S K R zz f) (ht : t < 4) (hs : s < 6) (ne : R.1 t ≠ -1) (hm : m ≤ 100) (e0 : μ.1 a 0 k = old)
    (ly : ∀ {d' : Nat} {μ1 : si_Mm} {Q' : si_Po} {v' : Int32}, Q' none (si_ms μ1 a 0 k v') → si_W sc (d' + 1) 185 0 [some (.inr (.inr (7, 0))), some (.inl (nI so)), some (.inl a6), some (.inl v')] [] μ1 Q')
    (up : ∀ c, c < m → ∀ μ1, RG μ1 n V S → RG (si_ms μ1 a 0 k (nI c)) n V (s_s S y s c)) (ha : a = 7 ∨ (33 ≤ a ∧ a ≤ 35))
    (hb : (so = 3 ∧ bt = fun _ => 0) ∨ (so ≠ 3 ∧ so ≤ 1000 ∧ bt = fun c => 1 <<< (nI c &&& 31)))
    (hq : ∀ μ', rf μ μ' → RI μ' n V S K R zz f → ∀ a8 a12 : Int32, si_W sc (d + 47) 220 277 [some (.inr (.inr (7, 0))), some (.inl (nI t)), some (.inl (nI s)), some (.inl a3), some (.inl a4), some (.inl (nI so)), some (.inl a6), some (.inl old), some (.inl a8), some (.inl (dw (s_ok V R S t s y) bt m (0, -1, 0)).2.2), some (.inl (dw (s_ok V R S t s y) bt m (0, -1, 0)).1), some (.inl (dw (s_ok V R S t s y) bt m (0, -1, 0)).2.1), some (.inl a12)] [] μ' Q) : ∀ a8 : Int32, si_W sc (d + 47) 220 210 [some (.inr (.inr (7, 0))), some (.inl (nI t)), some (.inl (nI s)), some (.inl a3), some (.inl a4), some (.inl (nI so)), some (.inl a6), some (.inl old), some (.inl a8), some (.inl 0), some (.inl 0), some (.inl (-1)), some (.inl (nI m - 1))] [] μ Q := by
  intro a8
  have e3 : (3 : Int32) = nI 3 := rfl
  have lp : ∀ (c : Nat) (q : Int32 × Int32 × Int32) (μ1 : si_Mm), c ≤ m → ft μ (si_ms μ1 a 0 k old) → (∀ μ', rf μ μ' → RI μ' n V S K R zz f → ∀ a8 a12 : Int32, si_W sc (d + 47) 220 277 [some (.inr (.inr (7, 0))), some (.inl (nI t)), some (.inl (nI s)), some (.inl a3), some (.inl a4), some (.inl (nI so)), some (.inl a6), some (.inl old), some (.inl a8), some (.inl (dw (s_ok V R S t s y) bt c q).2.2), some (.inl (dw (s_ok V R S t s y) bt c q).1), some (.inl (dw (s_ok V R S t s y) bt c q).2.1), some (.inl a12)] [] μ' Q) → si_W sc (d + 47) 220 210 [some (.inr (.inr (7, 0))), some (.inl (nI t)), some (.inl (nI s)), some (.inl a3), some (.inl a4), some (.inl (nI so)), some (.inl a6), some (.inl old), some (.inl a8), some (.inl q.2.2), some (.inl q.1), some (.inl q.2.1), some (.inl (nI c - 1))] [] μ1 Q := by
    intro c
    induction c with
    | zero =>
      intro q μ1 hc hf hq
      exact k_X7_tells_210 ⟨fun _ => ly (hq _ (rf_of hf.o) (h.t hf) a8 _), fun c => absurd (by decide) c⟩
    | succ c ih =>
      intro q μ1 hc hf hq
      have e : nI (c + 1) - 1 = nI c := by rw [nI_sub1 (by omega) (by omega), show c + 1 - 1 = c by omega]
      have em : nI c + (-1) = nI c - 1 := by rw [Int32.sub_eq_add_neg]
      rw [e]
      have hI := h.t hf
      have h2 := up c (by omega) _ hI.1
      rw [ms_ms] at h2
      have hRR : RR (si_ms μ1 a 0 k (nI c)) R := by
        have z := hI.2.2.2.1
        refine z.of ?_ ?_ ?_ ?_
        · funext j; rw [ms_eq, if_neg (by omega), ms_eq, if_neg (by omega)]
        · funext j; rw [ms_eq, if_neg (by omega), ms_eq, if_neg (by omega)]
        · funext j; rw [ms_eq, if_neg (by omega), ms_eq, if_neg (by omega)]
        · funext j; rw [ms_eq, if_neg (by omega), ms_eq, if_neg (by omega)]
      rw [dw] at hq
      refine k_X7_tells_210 ⟨fun cn => ?_, fun _ => ly (k_X7_tells_225 (r_firstOther h2 hRR ht hs ne fun μ3 f3 => k_X7_tells_231 ⟨fun cn => k_X7_tells_261 ?_, fun cy => ?_⟩))⟩
      · have z := nI_ge0 (s := c) (by omega)
        exact absurd cn (i_nlt.mpr z)
      · have nk : ¬ s_ok V R S t s y c := cn
        rw [ic_f nk] at hq
        rw [em]
        exact ih q μ3 (by omega) (ft_cell2 hf e0 f3.t) hq
      · have nk : s_ok V R S t s y c := cy
        rw [ic_t nk] at hq
        rw [e3]
        have go : si_W sc (d + 47) 220 251 [some (.inr (.inr (7, 0))), some (.inl (nI t)), some (.inl (nI s)), some (.inl a3), some (.inl a4), some (.inl (nI so)), some (.inl a6), some (.inl old), some (.inl a8), some (.inl q.2.2), some (.inl q.1), some (.inl q.2.1), some (.inl (nI c))] [.inl (bt c), .inl q.2.2] μ3 Q := by
          refine k_X7_tells_251 (k_X7_tells_261 ?_)
          rw [em]
          exact ih (q.1 + 1, nI c, q.2.2 ||| bt c) μ3 (by omega) (ft_cell2 hf e0 f3.t) hq
        rcases hb with ⟨b1, b2⟩ | ⟨b1, b2, b3⟩
        · rw [b2] at go
          exact ⟨fun c => absurd (by rw [b1]) c, fun _ => go⟩
        · rw [b3] at go
          exact ⟨fun _ => go, fun c => absurd ((nIe b2 (by omega)).mp c) b1⟩
  refine lp m (0, -1, 0) μ (Nat.le_refl _) ⟨fun a' i j e1 e2 => ?_, fun k' hk => ?_⟩ hq
  · rw [ms_eq]
    by_cases c : a' = a ∧ i = 0 ∧ j = k
    · rw [if_pos c, c.1, c.2.1, c.2.2]; exact e0.symm
    · rw [if_neg c]
  · rw [ms_eq]
    by_cases c : 35 = a ∧ 0 = 0 ∧ k' = k
    · rw [if_pos c, c.2.2, c.1]; exact e0.symm
    · rw [if_neg c]
theorem c5_ : si_c64 1 = (5 : Int32).toInt64 := by decide +kernel
theorem ly10 {d' : Nat} {μ1 : si_Mm} {Q' : si_Po} {o' v' : Int32} (hq : Q' none (si_ms μ1 7 0 4 v')) : si_W sc (d' + 1) 185 0 [some (.inr (.inr (7, 0))), some (.inl (nI 10)), some (.inl o'), some (.inl v')] [] μ1 Q' := k_X7_lays_0 ⟨fun _ => ⟨fun _ => ⟨fun _ => ⟨fun _ => ⟨fun _ => ⟨fun _ => ⟨fun _ => ⟨fun _ => hq, fun c => absurd c (by decide)⟩, fun c => absurd (by decide) c⟩, fun c => absurd c (by decide)⟩, fun c => absurd c (by decide)⟩, fun c => absurd c (by decide)⟩, fun c => absurd c (by decide)⟩, fun c => absurd c (by decide)⟩, fun c => absurd c (by decide)⟩
theorem ly9 {d' p : Nat} {μ1 : si_Mm} {Q' : si_Po} {v' : Int32} (hp : p < 8) (hq : Q' none (si_ms μ1 33 0 p v')) : si_W sc (d' + 1) 185 0 [some (.inr (.inr (7, 0))), some (.inl (nI 9)), some (.inl (nI p)), some (.inl v')] [] μ1 Q' := by
  have cp : (nI p).toNatClampNeg = p := nI_c (by omega)
  refine k_X7_lays_0 ⟨fun _ => ⟨fun _ => ⟨fun _ => ⟨fun _ => ⟨fun _ => ⟨fun _ => ⟨fun _ => ⟨fun c => absurd rfl c, fun _ => ⟨vp_in_nI (by omega) (by omega), ?_⟩⟩, fun c => absurd (by decide) c⟩, fun c => absurd c (by decide)⟩, fun c => absurd c (by decide)⟩, fun c => absurd c (by decide)⟩, fun c => absurd c (by decide)⟩, fun c => absurd c (by decide)⟩, fun c => absurd c (by decide)⟩
  rw [cp]; exact hq
theorem ly5 {d' p : Nat} {μ1 : si_Mm} {Q' : si_Po} {v' : Int32} (hp : p < 8) (hq : Q' none (si_ms μ1 34 0 p v')) : si_W sc (d' + 1) 185 0 [some (.inr (.inr (7, 0))), some (.inl (nI 5)), some (.inl (nI p)), some (.inl v')] [] μ1 Q' := by
  have cp : (nI p).toNatClampNeg = p := nI_c (by omega)
  refine k_X7_lays_0 ⟨fun _ => ⟨fun _ => ⟨fun _ => ⟨fun _ => ⟨fun _ => ⟨fun c => absurd rfl c, fun _ => ⟨vp_in_nI (by omega) (by omega), ?_⟩⟩, fun c => absurd c (by decide)⟩, fun c => absurd c (by decide)⟩, fun c => absurd c (by decide)⟩, fun c => absurd c (by decide)⟩, fun c => absurd c (by decide)⟩
  rw [cp]; exact hq
theorem ly3 {d' s : Nat} {μ1 : si_Mm} {Q' : si_Po} {v' : Int32} (hs : s < 6) (hq : Q' none (si_ms μ1 35 0 s v')) : si_W sc (d' + 1) 185 0 [some (.inr (.inr (7, 0))), some (.inl (nI 3)), some (.inl (nI s)), some (.inl v')] [] μ1 Q' := by
  have cp : (nI s).toNatClampNeg = s := nI_c (by omega)
  refine k_X7_lays_0 ⟨fun _ => ⟨fun _ => ⟨fun _ => ⟨fun c => absurd rfl c, fun _ => ⟨vp_in_nI (by omega) (by omega), ?_⟩⟩, fun c => absurd c (by decide)⟩, fun c => absurd c (by decide)⟩, fun c => absurd c (by decide)⟩
  rw [cp]; exact hq
set_option maxHeartbeats 1000000 in
theorem rc_tells (h : RI μ n V S K R zz f) (hq : ∀ μ', rf μ μ' → RI μ' n V S K R zz f → Q (some (.inl (A_tells V n S R w x y))) μ') : si_W sc (d + 47) 220 0 [some (.inr (.inr (7, 0))), some (.inl w), some (.inl x), some (.inl y), none, none, none, none, none, none, none, none, none] [] μ Q := by
  unfold A_tells at hq
  have h8 := h.1.2.1.1
  have hbad : ¬ okL w x y → Q (some (.inl (-2))) μ := fun c => by rw [ic_f c] at hq; exact hq μ rf.refl h
  refine k_X7_tells_0 (r_isSheet (k_X7_tells_4 ⟨fun c => k_X7_tells_26 (hbad (fun a => bc_0 c a.1)), fun c => r_isStrip (k_X7_tells_11 ⟨fun c2 => k_X7_tells_26 (hbad (fun a => bc_0 c2 a.2.1)), fun c2 => r_in l0 c5_ (k_X7_tells_23 ⟨fun c3 => ?_, fun c3 => k_X7_tells_26 (hbad (fun a => bc_0 c3 a.2.2))⟩)⟩)⟩))
  have hok : okL w x y := ⟨bc_n c, bc_n c2, bc_n c3⟩
  rw [ic_t hok] at hq
  obtain ⟨t, ht, rfl⟩ := sh_n hok.1
  obtain ⟨s, hs, rfl⟩ := st_n hok.2.1
  obtain ⟨Y, hY, rfl⟩ := st_n hok.2.2
  have ct : (nI t).toNatClampNeg = t := nI_c (by omega)
  have cs : (nI s).toNatClampNeg = s := nI_c (by omega)
  have hin : vp_in (nI t) 4 := vp_in_nI (by omega) (by omega)
  obtain ⟨a1, a2, a3⟩ := h.2.2.2.1 t ht
  rw [ct, cs] at hq
  rw [ct]
  by_cases ns : R.1 t = -1
  · rw [ic_t ns] at hq
    have z := a2 ns
    exact ⟨hin, fun c => absurd z c, fun _ => hq μ rf.refl h⟩
  rw [ic_f ns] at hq
  obtain ⟨p1, p2, p3, p4⟩ := a3 ns
  rw [p1, p3]
  refine ⟨hin, fun _ => ⟨hin, fun le30 => ?_, fun gt => ?_⟩, fun e => absurd e (by decide)⟩
  · rw [ic_t le30] at hq
    refine ⟨fun ny => ?_, fun ey => ?_⟩
    · rw [ic_f ny] at hq
      have fin : ∀ (bt : Nat → Int32) (so : Nat) (a4 a6 old : Int32), ((nI Y = 2 ∨ nI Y = 3) ∨ bt = fun c => 1 <<< (nI c &&& 31)) → s_n n S (nI Y) s ≤ 100 → ∀ μ', rf μ μ' → RI μ' n V S K R zz f → ∀ a8 a12 : Int32, si_W sc (d + 47) 220 277 [some (.inr (.inr (7, 0))), some (.inl (nI t)), some (.inl (nI s)), some (.inl (nI Y)), some (.inl a4), some (.inl (nI so)), some (.inl a6), some (.inl old), some (.inl a8), some (.inl (dw (s_ok V R S t s (nI Y)) bt (s_n n S (nI Y) s) (0, -1, 0)).2.2), some (.inl (dw (s_ok V R S t s (nI Y)) bt (s_n n S (nI Y) s) (0, -1, 0)).1), some (.inl (dw (s_ok V R S t s (nI Y)) bt (s_n n S (nI Y) s) (0, -1, 0)).2.1), some (.inl a12)] [] μ' Q := by
        intro bt so a4 a6 old hbt hsn μ' r' h' a8 a12
        have q := hq μ' r' h'
        have d1 := dw_1 (ok := s_ok V R S t s (nI Y)) (bt := bt) (s_n n S (nI Y) s) (0, -1, 0) (by omega)
        unfold pick at q
        refine k_X7_tells_277 ⟨fun n2 => ⟨fun n3 => ?_, fun e3 => ?_⟩, fun e2 => ?_⟩
        · rw [if_neg n2, if_neg n3] at q
          have eb : bt = fun c => 1 <<< (nI c &&& 31) := hbt.resolve_left (fun z => z.elim n2 n3)
          have d2 := dw_2 (ok := s_ok V R S t s (nI Y)) (s_n n S (nI Y) s) (0, -1, 0)
          rw [eb, d2, Int32.zero_or]; exact q
        · rw [if_neg n2, if_pos e3] at q
          rw [d1.2]
          by_cases e : (y_wf (s_ok V R S t s (nI Y)) (s_n n S (nI Y) s) 0 (0, -1, 0)).2.1 = -1
          · rw [if_pos e]; rw [e] at q; exact q
          · rw [if_neg e]; exact q
        · rw [if_pos e2] at q
          rw [d1.1, Int32.zero_add]; exact q
      have rg := fun (hy : nI Y = 1 ∨ nI Y = 2 ∨ nI Y = 3 ∨ nI Y = 4 ∨ nI Y = 5) (c : Nat) (hc : c < s_n n S (nI Y) s) => gwr_s h.1.2.1 h.1.2.2.1 h.1.2.2.2.1 hs hy hc
      have hn6 := h.1.2.2.2.1
      refine r_whose h.1.1 h.1.2.1 (k_X7_tells_71 ?_)
      rcases (show Y = 0 ∨ Y = 1 ∨ Y = 2 ∨ Y = 3 ∨ Y = 4 ∨ Y = 5 by omega) with rfl | rfl | rfl | rfl | rfl | rfl
      · exact absurd rfl ny
      · refine ⟨fun _ => k_X7_tells_86 ⟨fun c => absurd rfl c, fun _ => k_X7_tells_116 ⟨fun c => absurd c (by decide), fun _ => k_X7_tells_129 ⟨fun c => absurd rfl c, fun _ => k_X7_tells_153 ⟨fun c => absurd rfl c, fun _ => k_X7_tells_195 ?_⟩⟩⟩⟩, fun c => absurd (by decide) c⟩
        rw [h.2.1]
        have en : s_n n S (nI 1) s = n := by unfold s_n; rw [if_pos (by decide)]
        have z := fin (fun c => 1 <<< (nI c &&& 31)) 10 (g_find (S 18) (nI s) (gP S) 0) (nI s) (μ.1 7 0 4) (Or.inr rfl) (by rw [en]; omega)
        rw [en] at z rg
        exact r_fits (y := nI 1) (m := n) (so := 10) (a := 7) (k := 4) (c := 0) h ht hs ns (by omega) rfl ly10 (fun c hc μ1 h1 => by
          have g := rg (Or.inl rfl) c hc
          have es : s_s S (nI 1) s c = upS S 2 5 (nI c) := by unfold s_s; rw [if_pos (by decide)]
          rw [es] at g ⊢
          exact h1.m (h1.1.f (by omega)) g.1 g.2 (by omega)) (by omega) (Or.inr ⟨by omega, by omega, rfl⟩) z _
      · refine ⟨fun _ => k_X7_tells_86 ⟨fun _ => ⟨fun c => absurd c (by decide), fun _ => k_X7_tells_116 ⟨fun c => absurd c (by decide), fun _ => k_X7_tells_129 ⟨fun _ => r_told (k := 3) h.1 (by omega) ((kn_l (by omega)).mpr (by rw [if_neg (by decide), if_pos (by decide)]; exact hok.2.1)) (fun μ1 f1 => k_X7_tells_153 ⟨fun _ => ⟨fun c => absurd rfl c, fun _ => k_X7_tells_195 ?_⟩, fun c => absurd c (by decide)⟩), fun c => absurd c (by decide)⟩⟩⟩, fun c => absurd c (by decide)⟩, fun c => absurd (by decide) c⟩
        have h1 := h.s f1
        have r1 := rf_of f1.so
        have en : s_n n S (nI 2) s = 100 := by unfold s_n; rw [if_neg (by decide), if_pos (by decide)]
        have ev : vl V S (nI 3) (nI s) = S 14 s := by rw [vl_l (by omega), if_neg (by decide), if_neg (by decide), if_neg (by decide), if_pos rfl, cs]
        rw [ev]
        have z := fin (fun _ => 0) 3 (g_find (S 18) (nI s) (gP S) 0) (nI s) (S 14 s) (Or.inl (Or.inl rfl)) (by rw [en]; omega)
        rw [en] at z rg
        exact r_fits (y := nI 2) (m := 100) (so := 3) (a := 35) (k := s) (c := 0) h1 ht hs ns (by omega) (h1.1.1.2.2.2.2.2.1 s hs).1 (ly3 hs) (fun c hc μ1 h1 => by
          have g := rg (Or.inr (Or.inl rfl)) c hc
          have es : s_s S (nI 2) s c = upS S 14 s (nI c) := by unfold s_s; rw [if_neg (by decide), if_pos (by decide)]
          rw [es] at g ⊢
          exact h1.m (h1.1.r14 hs) g.1 g.2 (by omega)) (by omega) (Or.inl ⟨rfl, rfl⟩) (fun μ' r' h' => z μ' (r1.tr r') h') _
      · refine ⟨fun _ => k_X7_tells_86 ⟨fun _ => ⟨fun c => absurd c (by decide), fun _ => k_X7_tells_116 ⟨fun c => absurd c (by decide), fun _ => k_X7_tells_129 ⟨fun _ => r_told (k := 3) h.1 (by omega) ((kn_l (by omega)).mpr (by rw [if_neg (by decide), if_pos (by decide)]; exact hok.2.1)) (fun μ1 f1 => k_X7_tells_153 ⟨fun _ => ⟨fun c => absurd rfl c, fun _ => k_X7_tells_195 ?_⟩, fun c => absurd c (by decide)⟩), fun c => absurd c (by decide)⟩⟩⟩, fun c => absurd c (by decide)⟩, fun c => absurd (by decide) c⟩
        have h1 := h.s f1
        have r1 := rf_of f1.so
        have en : s_n n S (nI 3) s = 100 := by unfold s_n; rw [if_neg (by decide), if_neg (by decide), if_pos (by decide)]
        have ev : vl V S (nI 3) (nI s) = S 14 s := by rw [vl_l (by omega), if_neg (by decide), if_neg (by decide), if_neg (by decide), if_pos rfl, cs]
        rw [ev]
        have z := fin (fun _ => 0) 3 (g_find (S 18) (nI s) (gP S) 0) (nI s) (S 14 s) (Or.inl (Or.inr rfl)) (by rw [en]; omega)
        rw [en] at z rg
        exact r_fits (y := nI 3) (m := 100) (so := 3) (a := 35) (k := s) (c := 0) h1 ht hs ns (by omega) (h1.1.1.2.2.2.2.2.1 s hs).1 (ly3 hs) (fun c hc μ1 h1 => by
          have g := rg (Or.inr (Or.inr (Or.inl rfl))) c hc
          have es : s_s S (nI 3) s c = upS S 14 s (nI c) := by unfold s_s; rw [if_neg (by decide), if_neg (by decide), if_pos (by decide)]
          rw [es] at g ⊢
          exact h1.m (h1.1.r14 hs) g.1 g.2 (by omega)) (by omega) (Or.inl ⟨rfl, rfl⟩) (fun μ' r' h' => z μ' (r1.tr r') h') _
      · cases hwho : who S s with
        | none =>
          have en : s_n n S (nI 4) s = 0 := by unfold s_n; rw [if_neg (by decide), if_neg (by decide), if_neg (by decide), hwho]
          rw [who_n hwho]
          refine ⟨fun c => absurd c (by decide), fun _ => ⟨fun c => absurd rfl c, fun _ => ?_⟩⟩
          have q := hq μ rf.refl h
          rw [en, y_wf] at q; exact q
        | some p =>
          obtain ⟨w1, w2, w3⟩ := who_18 hwho
          have cp : (nI p).toNatClampNeg = p := nI_c (by omega)
          rw [w3]
          refine ⟨fun c => absurd c (by decide), fun _ => ⟨fun _ => k_X7_tells_86 ⟨fun _ => ⟨fun _ => ⟨fun c => absurd rfl c, fun _ => k_X7_tells_116 ⟨fun _ => k_X7_tells_129 ⟨fun _ => r_told (k := 9) h.1 (by omega) ((kn_l (by omega)).mpr (by rw [if_neg (by decide), if_neg (by decide), if_pos (by decide)]; exact isP_nI h8 w1)) (fun μ1 f1 => k_X7_tells_153 ⟨fun _ => ⟨fun _ => ⟨fun c => absurd rfl c, fun _ => k_X7_tells_195 ?_⟩, fun c => absurd c (by decide)⟩, fun c => absurd c (by decide)⟩), fun c => absurd c (by decide)⟩, fun c => absurd (by decide) c⟩⟩, fun c => absurd (by decide) c⟩, fun c => absurd c (by decide)⟩, fun c => absurd c (nI_neg1 (by omega))⟩⟩
          have h1 := h.s f1
          have r1 := rf_of f1.so
          have en : s_n n S (nI 4) s = 6 := by unfold s_n; rw [if_neg (by decide), if_neg (by decide), if_neg (by decide), hwho]; dsimp only; rw [if_pos (by decide)]
          have ev : vl V S (nI 9) (nI p) = S 16 p := by rw [vl_l (by omega), if_neg (by decide), if_neg (by decide), if_neg (by decide), if_neg (by decide), if_neg (by decide), if_neg (by decide), if_neg (by decide), if_neg (by decide), if_neg (by decide), if_pos rfl, cp]
          rw [ev]
          have z := fin (fun c => 1 <<< (nI c &&& 31)) 9 (nI p) (nI p) (S 16 p) (Or.inr rfl) (by rw [en]; omega)
          rw [en] at z rg
          exact r_fits (y := nI 4) (m := 6) (so := 9) (a := 33) (k := p) (c := 0) h1 ht hs ns (by omega) (h1.1.1.2.2.2.2.2.2 p w1).1 (ly9 (by omega)) (fun c hc μ1 h1 => by
            have g := rg (Or.inr (Or.inr (Or.inr (Or.inl rfl)))) c hc
            have es : s_s S (nI 4) s c = upS S 16 p (nI c) := by unfold s_s; rw [if_neg (by decide), if_neg (by decide), if_neg (by decide), hwho]; dsimp only; rw [if_pos (by decide)]
            rw [es] at g ⊢
            exact h1.m (h1.1.pe (by omega)) g.1 g.2 (by omega)) (by omega) (Or.inr ⟨by omega, by omega, rfl⟩) (fun μ' r' h' => z μ' (r1.tr r') h') _
      · cases hwho : who S s with
        | none =>
          have en : s_n n S (nI 5) s = 0 := by unfold s_n; rw [if_neg (by decide), if_neg (by decide), if_neg (by decide), hwho]
          rw [who_n hwho]
          refine ⟨fun c => absurd c (by decide), fun _ => ⟨fun c => absurd rfl c, fun _ => ?_⟩⟩
          have q := hq μ rf.refl h
          rw [en, y_wf] at q; exact q
        | some p =>
          obtain ⟨w1, w2, w3⟩ := who_18 hwho
          have cp : (nI p).toNatClampNeg = p := nI_c (by omega)
          rw [w3]
          refine ⟨fun c => absurd c (by decide), fun _ => ⟨fun _ => k_X7_tells_86 ⟨fun _ => ⟨fun _ => ⟨fun _ => k_X7_tells_116 ⟨fun _ => k_X7_tells_129 ⟨fun _ => r_told (k := 5) h.1 (by omega) ((kn_l (by omega)).mpr (by rw [if_neg (by decide), if_neg (by decide), if_pos (by decide)]; exact isP_nI h8 w1)) (fun μ1 f1 => k_X7_tells_153 ⟨fun _ => ⟨fun _ => ⟨fun _ => k_X7_tells_195 ?_, fun c => absurd c (by decide)⟩, fun c => absurd c (by decide)⟩, fun c => absurd c (by decide)⟩), fun c => absurd c (by decide)⟩, fun c => absurd (by decide) c⟩, fun c => absurd c (by decide)⟩, fun c => absurd (by decide) c⟩, fun c => absurd c (by decide)⟩, fun c => absurd c (nI_neg1 (by omega))⟩⟩
          have h1 := h.s f1
          have r1 := rf_of f1.so
          have en : s_n n S (nI 5) s = 10 := by unfold s_n; rw [if_neg (by decide), if_neg (by decide), if_neg (by decide), hwho]; dsimp only; rw [if_neg (by decide)]
          have ev : vl V S (nI 5) (nI p) = S 17 p := by rw [vl_l (by omega), if_neg (by decide), if_neg (by decide), if_neg (by decide), if_neg (by decide), if_neg (by decide), if_pos rfl, cp]
          rw [ev]
          have z := fin (fun c => 1 <<< (nI c &&& 31)) 5 (nI p) (nI p) (S 17 p) (Or.inr rfl) (by rw [en]; omega)
          rw [en] at z rg
          exact r_fits (y := nI 5) (m := 10) (so := 5) (a := 34) (k := p) (c := 0) h1 ht hs ns (by omega) (h1.1.1.2.2.2.2.2.2 p w1).2.1 (ly5 (by omega)) (fun c hc μ1 h1 => by
            have g := rg (Or.inr (Or.inr (Or.inr (Or.inr rfl)))) c hc
            have es : s_s S (nI 5) s c = upS S 17 p (nI c) := by unfold s_s; rw [if_neg (by decide), if_neg (by decide), if_neg (by decide), hwho]; dsimp only; rw [if_neg (by decide)]
            rw [es] at g ⊢
            exact h1.m (h1.1.pe (by omega)) g.1 g.2 (by omega)) (by omega) (Or.inr ⟨by omega, by omega, rfl⟩) (fun μ' r' h' => z μ' (r1.tr r') h') _
    · rw [ic_t ey] at hq
      exact r_firstOther h.1 h.2.2.2.1 ht hs ns fun μ' f' => k_X7_tells_65 (hq μ' (rf_of f'.t.o) (h.t f'.t))
  · rw [ic_f gt] at hq; exact hq μ rf.refl h
end RXd
