/-! Garden.ask: what the rule says; effort and remains -/
theorem ev_step_agree {nm nm' : Nat → Int32} (hn : ∀ k, k < 6 → nm k = nm' k) {c : Int32} {q q' : Nat × (Nat → Int32)} (h1 : q.1 = q'.1) (h2 : ∀ k, k < q.1 → q.2 k = q'.2 k) : (ev_step nm c q).1 = (ev_step nm' c q').1 ∧ ∀ k, k < (ev_step nm c q).1 → (ev_step nm c q).2 k = (ev_step nm' c q').2 k := by
  obtain ⟨n, f⟩ := q
  obtain ⟨n', f'⟩ := q'
  dsimp only at h1 h2
  subst h1
  unfold ev_step
  dsimp only
  by_cases c0 : 0 ≤ c
  · rw [if_pos c0, if_pos c0]
    by_cases c1 : n < 64
    · rw [if_pos c1, if_pos c1]
      refine ⟨rfl, fun k hk => ?_⟩
      dsimp only at hk ⊢
      unfold upd
      by_cases e : k = n
      · rw [if_pos e, if_pos e]
      · rw [if_neg e, if_neg e]; exact h2 k (by omega)
    · rw [if_neg c1, if_neg c1]; exact ⟨rfl, h2⟩
  · rw [if_neg c0, if_neg c0]
    by_cases c6 : 6 ≤ -1 - c
    · rw [if_pos c6, if_pos c6]
      by_cases c13 : c = -13
      · rw [if_pos c13, if_pos c13]
        by_cases e0 : n = 0
        · rw [if_pos e0, if_pos e0]; exact ⟨rfl, h2⟩
        · rw [if_neg e0, if_neg e0]
          refine ⟨rfl, fun k hk => ?_⟩
          dsimp only at hk ⊢
          have eb : bi (f (n - 1) = 0) = bi (f' (n - 1) = 0) := bi_iff (by rw [h2 (n - 1) (by omega)])
          show upd f (n - 1) (bi (f (n - 1) = 0)) k = upd f' (n - 1) (bi (f' (n - 1) = 0)) k
          rw [eb]
          unfold upd
          by_cases e : k = n - 1
          · rw [if_pos e, if_pos e]
          · rw [if_neg e, if_neg e]; exact h2 k hk
      · rw [if_neg c13, if_neg c13]
        by_cases c19 : c = -19
        · rw [if_pos c19, if_pos c19]
          by_cases e0 : n = 0
          · rw [if_pos e0, if_pos e0]; exact ⟨rfl, h2⟩
          · rw [if_neg e0, if_neg e0]
            refine ⟨rfl, fun k hk => ?_⟩
            dsimp only at hk ⊢
            rw [h2 (n - 1) (by omega)]
            unfold upd
            by_cases e : k = n - 1
            · rw [if_pos e, if_pos e]
            · rw [if_neg e, if_neg e]; exact h2 k hk
        · rw [if_neg c19, if_neg c19]
          by_cases e1 : n ≤ 1
          · rw [if_pos e1, if_pos e1]; exact ⟨rfl, h2⟩
          · rw [if_neg e1, if_neg e1]
            refine ⟨rfl, fun k hk => ?_⟩
            dsimp only at hk ⊢
            rw [h2 (n - 1) (by omega), h2 (n - 2) (by omega)]
            unfold upd
            by_cases e : k = n - 2
            · rw [if_pos e, if_pos e]
            · rw [if_neg e, if_neg e]; exact h2 k (by omega)
    · rw [if_neg c6, if_neg c6]
      by_cases c1 : n < 64
      · rw [if_pos c1, if_pos c1]
        obtain ⟨j, hj, hjx⟩ := vp_in_of (name_in c0 c6) (by decide)
        have hnn : nm (-1 - c).toNatClampNeg = nm' (-1 - c).toNatClampNeg := by
          rw [hjx, nI_c (by omega)]
          exact hn j hj
        rw [hnn]
        refine ⟨rfl, fun k hk => ?_⟩
        dsimp only at hk ⊢
        unfold upd
        by_cases e : k = n
        · rw [if_pos e, if_pos e]
        · rw [if_neg e, if_neg e]; exact h2 k (by omega)
      · rw [if_neg c1, if_neg c1]; exact ⟨rfl, h2⟩
theorem ev_run_agree {nm nm' cd : Nat → Int32} (hn : ∀ k, k < 6 → nm k = nm' k) : ∀ (n k : Nat) (q q' : Nat × (Nat → Int32)), q.1 = q'.1 → (∀ j, j < q.1 → q.2 j = q'.2 j) → ev_fin (ev_run nm cd n k q) = ev_fin (ev_run nm' cd n k q')
  | 0, _, q, q', h1, h2 => by
    unfold ev_run ev_fin
    rw [← h1]
    by_cases e : q.1 = 0
    · rw [if_pos e, if_pos e]
    · rw [if_neg e, if_neg e]; exact h2 _ (by omega)
  | n + 1, k, q, q', h1, h2 => by
    rw [ev_run, ev_run]
    obtain ⟨a1, a2⟩ := ev_step_agree hn (c := cd k) h1 h2
    exact ev_run_agree hn n (k + 1) _ _ a1 a2
theorem vin (k N : Nat) (h : k < N) (hN : N < 2 ^ 31) : vp_in (Int32.ofNat k) N := vp_in_nI h hN
/-- what part p of text t says (the codes cd, cut at the places e), of names nm -/
def tv (cd : Nat → Int32) (e : Nat → Nat) (t p : Nat) (nm : Nat → Int32) : Int32 := ev_fin (ev_run nm cd (e (3 * t + p + 1) - e (3 * t + p)) (e (3 * t + p)) (0, fun _ => 0))
theorem tv_cong {cd : Nat → Int32} {e : Nat → Nat} {t p : Nat} {nm nm' : Nat → Int32} (hn : ∀ k, k < 6 → nm k = nm' k) : tv cd e t p nm = tv cd e t p nm' := ev_run_agree hn _ _ _ _ rfl (fun _ _ => rfl)
/-- the book's texts: n of them, cut at the places e -/
def bk (μ : si_Mm) (n : Nat) (e : Nat → Nat) : Prop := n ≤ 6 ∧ (∀ k, k ≤ 3 * n → μ.1 11 0 k = nI (e k)) ∧ (∀ k, k < 3 * n → e k ≤ e (k + 1)) ∧ ∀ k, k ≤ 3 * n → e k ≤ 960
def cl (v : Int32) : Int32 := if 0 < (if v < 99 then v else 99) then (if v < 99 then v else 99) else 0
/-- the names, of strip s and of who has it -/
def nv (S : Nat → Nat → Int32) (s : Nat) (o : Option Nat) : Nat → Int32 := fun k =>
  if k = 0 then (match o with | some p => S 17 p | none => 0) else if k = 1 then S 2 2 else if k = 2 then S 14 s
  else if k = 3 then (match o with | some p => S 19 p | none => 0) else if k = 4 then nI s else (match o with | some p => S 20 p | none => 0)
/-- all but the stack and the names is as it was -/
def sq2 (μ μ' : si_Mm) : Prop := (∀ a i, a ≠ 12 → a ≠ 13 → μ'.1 a i = μ.1 a i) ∧ μ'.2 = μ.2
theorem sq2.rf {μ : si_Mm} : sq2 μ μ := ⟨fun _ _ _ _ => rfl, rfl⟩
theorem sq2.tr {μ1 μ2 μ3 : si_Mm} (h : sq2 μ1 μ2) (g : sq2 μ2 μ3) : sq2 μ1 μ3 := ⟨fun a i e f => (g.1 a i e f).trans (h.1 a i e f), g.2.trans h.2⟩
theorem sq2.of1 {μ μ' : si_Mm} (h : sq1 μ μ') : sq2 μ μ' := ⟨fun a i e _ => h.1 a i e, h.2⟩
theorem sq2.ms {μ : si_Mm} {g k : Nat} {v : Int32} : sq2 μ (si_ms μ 13 g k v) := ⟨fun a i _ f => si_ms_ne μ k v (fun q => f (congrArg Prod.fst q)), rfl⟩
theorem sq2.bk {μ μ' : si_Mm} {n : Nat} {e : Nat → Nat} (h : sq2 μ μ') (hb : bk μ n e) : bk μ' n e := ⟨hb.1, fun k hk => by rw [h.1 _ _ (by decide) (by decide)]; exact hb.2.1 k hk, hb.2.2⟩
section PA
variable {sc : si_Sc} {d g : Nat} {μ : si_Mm} {Q : si_Po}
set_option maxHeartbeats 2000000 in
/-- the last steps: five names are laid, the sixth comes -/
theorem p_ask_98 {n tn pn : Nat} {e : Nat → Nat} {a2 a3 a4 v : Int32} {S : Nat → Nat → Int32} {s : Nat} {o : Option Nat} (hb : bk μ n e) (ht : tn < n) (hp : pn < 3) (hr : μ.1 2 g 5 = nI tn) (hn : ∀ k, k < 5 → μ.1 13 g k = nv S s o k) (hv : v = nv S s o 5) (hq : ∀ μ', sq2 μ μ' → Q (some (.inl (cl (tv (μ.1 10 0) e tn pn (nv S s o))))) μ') : si_W sc (d + 2) 28 98 [some (.inr (.inr (2, g))), some (.inl (nI pn)), some (.inl a2), some (.inl a3), some (.inl a4)] [.inl v, .inl 5, .inr (.inr (13, g))] μ Q := by
  have h5 : (5 : Int32).toNatClampNeg = 5 := by decide
  obtain ⟨b1, b2, b3, b4⟩ := hb
  refine k_X2_ask_98 ⟨vin 5 6 (by decide) (by decide), ?_⟩
  rw [h5]
  have e1 : (si_ms μ 13 g 5 v).1 2 g 5 = nI tn := by rw [ms_eq, if_neg (fun q => absurd q.1 (by decide))]; exact hr
  rw [e1]
  have hE : ∀ k, (si_ms μ 13 g 5 v).1 11 0 k = μ.1 11 0 k := fun k => by rw [ms_eq, if_neg (by simp)]
  refine p_value (tn := tn) (pn := pn) (a := e (3 * tn + pn)) (b := e (3 * tn + pn + 1)) (by omega) hp (by rw [hE]; exact b2 _ (by omega)) (by rw [hE]; exact b2 _ (by omega)) (b3 _ (by omega)) (b4 _ (by omega)) ?_
  intro μ' hsq
  refine k_X2_ask_118 ?_
  have hres := hq μ' (sq2.ms.tr (sq2.of1 hsq))
  have hC : (si_ms μ 13 g 5 v).1 10 0 = μ.1 10 0 := by funext k; rw [ms_eq, if_neg (by simp)]
  have hval : ev_fin (ev_run ((si_ms μ 13 g 5 v).1 13 g) ((si_ms μ 13 g 5 v).1 10 0) (e (3 * tn + pn + 1) - e (3 * tn + pn)) (e (3 * tn + pn)) (0, (si_ms μ 13 g 5 v).1 12 0)) = tv (μ.1 10 0) e tn pn (nv S s o) := by
    rw [hC]
    refine ev_run_agree (fun k hk => ?_) _ _ _ _ rfl (fun j hj => absurd hj (Nat.not_lt_zero j))
    rw [si_ms_same]
    unfold upd
    by_cases hk5 : k = 5
    · rw [if_pos hk5, hv, hk5]
    · rw [if_neg hk5]; exact hn k (by omega)
  rw [hval]
  exact hres
set_option maxHeartbeats 2000000 in
theorem p_ask {n tn pn P s : Nat} {e : Nat → Nat} {x : Int32} {o : Option Nat} (hb : bk μ n e) (ht : tn < n) (hp : pn < 3) (hr : μ.1 2 g 5 = nI tn) (hP : μ.1 2 g 6 = nI P) (hP8 : P ≤ 8) (hs : s < 6) (hx : match o with | some p => p < P ∧ x = nI p | none => x = -1) (hq : ∀ μ', sq2 μ μ' → Q (some (.inl (cl (tv (μ.1 10 0) e tn pn (nv (fun a => μ.1 a g) s o))))) μ') : si_W sc (d + 2) 28 0 [some (.inr (.inr (2, g))), some (.inl (nI pn)), some (.inl (nI s)), some (.inl x), none] [] μ Q := by
  have c0 : (0 : Int32).toNatClampNeg = 0 := by decide
  have c1 : (1 : Int32).toNatClampNeg = 1 := by decide
  have c2 : (2 : Int32).toNatClampNeg = 2 := by decide
  have c3 : (3 : Int32).toNatClampNeg = 3 := by decide
  have c4 : (4 : Int32).toNatClampNeg = 4 := by decide
  have cs : (nI s).toNatClampNeg = s := nI_c (by omega)
  refine k_X2_ask_0 (p_isPerson hP hP8 ?_)
  match o, hx with
  | none, hx =>
    have hf : ¬ (0 ≤ x ∧ x < nI P) := by rw [hx]; exact fun q => absurd q.1 (by decide)
    rw [bi_f hf]
    refine k_X2_ask_5 ⟨fun _ => ?_, fun h => absurd rfl h⟩
    refine k_X2_ask_27 ⟨vin 0 6 (by decide) (by decide), vin 1 6 (by decide) (by decide), vp_in_nI hs (by omega), vin 2 6 (by decide) (by decide), fun _ => ?_, fun h => absurd rfl h⟩
    refine k_X2_ask_70 ⟨vin 3 6 (by decide) (by decide), vin 4 6 (by decide) (by decide), fun _ => ?_, fun h => absurd rfl h⟩
    rw [c0, c1, c2, c3, c4, cs]
    refine p_ask_98 (S := fun a => μ.1 a g) (s := s) (o := none) (sq2.bk (sq2.tr (sq2.tr (sq2.tr (sq2.tr sq2.ms sq2.ms) sq2.ms) sq2.ms) sq2.ms) hb) ht hp ?_ ?_ rfl ?_
    · simp only [ms_eq]; simp [hr]
    · intro k hk
      simp only [ms_eq]
      unfold nv
      rcases (show k = 0 ∨ k = 1 ∨ k = 2 ∨ k = 3 ∨ k = 4 by omega) with rfl | rfl | rfl | rfl | rfl <;> simp
    · intro μ' h'
      have hC : ∀ k, (si_ms (si_ms (si_ms (si_ms (si_ms μ 13 g 0 0) 13 g 1 ((si_ms μ 13 g 0 0).1 2 g 2)) 13 g 2 ((si_ms (si_ms μ 13 g 0 0) 13 g 1 ((si_ms μ 13 g 0 0).1 2 g 2)).1 14 g s)) 13 g 3 0) 13 g 4 (nI s)).1 10 0 k = μ.1 10 0 k := fun k => by simp [ms_eq]
      rw [funext hC]
      exact hq μ' (sq2.tr (sq2.tr (sq2.tr (sq2.tr (sq2.tr sq2.ms sq2.ms) sq2.ms) sq2.ms) sq2.ms) h')
  | some p, hx =>
    obtain ⟨hpP, rfl⟩ := hx
    have cp : (nI p).toNatClampNeg = p := nI_c (by omega)
    have hin : vp_in (nI p) 8 := nI_8 hP8 hpP
    rw [bi_t ⟨nI_pos' (by omega), (nI_lt8 (by omega) (by omega)).mpr hpP⟩]
    refine k_X2_ask_5 ⟨fun h => absurd h (by decide), fun _ => ⟨hin, ?_⟩⟩
    refine k_X2_ask_27 ⟨vin 0 6 (by decide) (by decide), vin 1 6 (by decide) (by decide), vp_in_nI hs (by omega), vin 2 6 (by decide) (by decide), fun h => absurd h (by decide), fun _ => ⟨hin, ?_⟩⟩
    refine k_X2_ask_70 ⟨vin 3 6 (by decide) (by decide), vin 4 6 (by decide) (by decide), fun h => absurd h (by decide), fun _ => ⟨hin, ?_⟩⟩
    rw [c0, c1, c2, c3, c4, cs, cp]
    refine p_ask_98 (S := fun a => μ.1 a g) (s := s) (o := some p) (sq2.bk (sq2.tr (sq2.tr (sq2.tr (sq2.tr sq2.ms sq2.ms) sq2.ms) sq2.ms) sq2.ms) hb) ht hp ?_ ?_ ?_ ?_
    · simp only [ms_eq]; simp [hr]
    · intro k hk
      simp only [ms_eq]
      unfold nv
      rcases (show k = 0 ∨ k = 1 ∨ k = 2 ∨ k = 3 ∨ k = 4 by omega) with rfl | rfl | rfl | rfl | rfl <;> simp
    · simp [ms_eq, nv]
    · intro μ' h'
      have hC : ∀ (m1 : si_Mm), sq2 μ m1 → m1.1 10 0 = μ.1 10 0 := fun m1 h1 => h1.1 _ _ (by decide) (by decide)
      rw [hC _ (sq2.tr (sq2.tr (sq2.tr (sq2.tr sq2.ms sq2.ms) sq2.ms) sq2.ms) sq2.ms)]
      exact hq μ' (sq2.tr (sq2.tr (sq2.tr (sq2.tr (sq2.tr sq2.ms sq2.ms) sq2.ms) sq2.ms) sq2.ms) h')
end PA
