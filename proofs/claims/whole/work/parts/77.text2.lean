/-! text(), the class's side, over its whole state -/
theorem BB_le {f : Nat → Int32} {z k : Nat} : BB f z k ≤ z := by
  unfold BB lB
  by_cases c : z ≤ lb f z (en f z k)
  · rw [ic_t c]; exact Nat.le_refl _
  · rw [ic_f c]; omega
def fT (μ μ' : si_Mm) : Prop := ∀ a i, a ≠ 1 → a ≠ 3 → a ≠ 5 → a ≠ 10 → a ≠ 11 → a ≠ 26 → a ≠ 27 → a ≠ 28 → μ'.1 a i = μ.1 a i
theorem fT_vw {μ μ' : si_Mm} {g : Nat} (h : fT μ μ') : vw μ' g = vw μ g := by
  funext a
  unfold vw
  by_cases e : gt a = true
  · rw [if_pos e, if_pos e]
    unfold gt at e
    rw [Bool.or_eq_true, Bool.and_eq_true, Nat.beq_eq, Nat.ble_eq, Nat.ble_eq] at e
    exact h a g (by omega) (by omega) (by omega) (by omega) (by omega) (by omega) (by omega) (by omega)
  · rw [if_neg e, if_neg e]
theorem gw_n {S : gS} {n m : Nat} (h : gw S n) (hm : n ≤ m) : gw S m := ⟨h.1, h.2.1, by have := h.2.2.1; omega, h.2.2.2⟩
section TY
variable {sc : si_Sc} {d : Nat} {μ μ' : si_Mm} {Q : si_Po} {n : Nat} {V : VT} {S : gS} {K : Option gS} {R : shT} {z : Nat} {f : Nat → Int32}
theorem CI_text {n' : Nat} {e' : Nat → Nat} (h : CI μ n V S K R z f) (hf : fT μ μ') (hn : n ≤ n') (hb : bk μ' n' e') (hx : bkx μ' n' e') (h5 : μ'.1 5 0 1 = nI 0) : CI μ' n' (y_V (μ'.1 10 0) e') S K R 0 f := by
  obtain ⟨e, h1, h2, h3, h4, h5', h6, h7⟩ := h
  refine ⟨e', ⟨hb, (fT_vw hf).trans h1.2.1, gw_n h1.2.2.1 hn, h1.2.2.2.1, by rw [fT_vw hf]; exact h1.2.2.2.2.1, by rw [fT_vw hf]; exact h1.2.2.2.2.2⟩, rfl, hx, ⟨by omega, h5, fun i hi => absurd hi (Nat.not_lt_zero i)⟩, CR_of (hf _ _ (by decide) (by decide) (by decide) (by decide) (by decide) (by decide) (by decide) (by decide)) (hf _ _ (by decide) (by decide) (by decide) (by decide) (by decide) (by decide) (by decide) (by decide)) (hf _ _ (by decide) (by decide) (by decide) (by decide) (by decide) (by decide) (by decide) (by decide)) h5', ?_, h7⟩
  have h6' := kp_of (μ' := μ') (hf _ _ (by decide) (by decide) (by decide) (by decide) (by decide) (by decide) (by decide) (by decide)) (fT_vw hf) h6
  unfold kp at h6' ⊢
  cases K with
  | none => exact h6'
  | some S2 => exact ⟨h6'.1, h6'.2.1, gw_n h6'.2.2.1 hn, h6'.2.2.2⟩
theorem tv_ag {cd cd' : Nat → Int32} {e e' : Nat → Nat} {nm : Nat → Int32} {t p : Nat} (hm : ∀ k, k < 3 * n → e k ≤ e (k + 1)) (hc : ∀ j, j < e (3 * n) → cd' j = cd j) (he : ∀ k, k ≤ 3 * n → e' k = e k) (ht : t < n) (hp : p < 3) : y_V cd' e' t p nm = y_V cd e t p nm := by
  unfold y_V tv
  rw [he _ (by omega), he _ (by omega)]
  congr 2
  refine ev_run_cd _ _ _ fun j h1 h2 => hc j ?_
  have mono : ∀ m k, k + m = 3 * n → e k ≤ e (3 * n) := by
    intro m
    induction m with
    | zero => intro k hk; rw [show k = 3 * n by omega]; exact Nat.le_refl _
    | succ m ih => intro k hk; exact Nat.le_trans (hm k (by omega)) (ih (k + 1) (by omega))
  have h3 := mono (3 * n - (3 * t + p + 1)) (3 * t + p + 1) (by omega)
  have h4 := hm (3 * t + p) (by omega)
  omega
theorem V_new {cd : Nat → Int32} {e : Nat → Nat} {nm : Nat → Int32} {t p a : Nat} {cs : List Int32} (h1 : e (3 * t + p) = a) (h2 : e (3 * t + p + 1) = a + cs.length) (hc : ∀ i, i < cs.length → cd (a + i) = cs.getD i 0) : y_V cd e t p nm = cl (evl nm cs) := by
  unfold y_V tv evl
  rw [h1, h2, Nat.add_sub_cancel_left, ev_run_l cs a _ hc]
set_option maxHeartbeats 2000000 in
theorem cc_text (h : CI μ n V S K R z f) (full : n = 6 → Q (some (.inl (-4))) μ)
    (ok : ∀ k' c0 c1 c2, n < 6 → q_text (TT f z) (WW f z) = (k', some (c0, c1, c2)) → ∀ μ' V', cf μ μ' → CI μ' (n + 1) V' S K R 0 f → (∀ t, t < n → ∀ p, p < 3 → ∀ nm, V' t p nm = V t p nm) → (∀ nm, V' n 0 nm = cl (evl nm c0) ∧ V' n 1 nm = cl (evl nm c1) ∧ V' n 2 nm = cl (evl nm c2)) → Q (some (.inl (nI n))) μ')
    (bad : ∀ k', n < 6 → q_text (TT f z) (WW f z) = (k', none) → ∀ μ' V', cf μ μ' → CI μ' n V' S K R 0 f → (∀ t, t < n → ∀ p, p < 3 → ∀ nm, V' t p nm = V t p nm) → Q (some (.inl (-100 - nI (BB f z k')))) μ') : si_W sc (d + 43) 87 0 [some (.inr (.inr (6, 0))), none] [] μ Q := by
  have hC := h
  obtain ⟨e, h1, h2, h3, h4, h5, h6, h7⟩ := h
  obtain ⟨b1, b2, b3, b4⟩ := h1.1
  obtain ⟨x1, x2, x3, x4, x5⟩ := h3
  have hz := h4.1
  have e6 : (6 : Int32) = nI 6 := rfl
  refine k_X6_text_0 (k_X1_isFull_0 ⟨fun c => ⟨b0, ?_⟩, fun c => ⟨Or.inr rfl, k_X6_text_7 ⟨fun c2 => absurd c2 (by decide), fun _ => full ?_⟩⟩⟩)
  · rw [x2, e6, nI_lt8 (by omega) (by omega)] at c
    refine k_X6_text_7 ⟨fun _ => p_split h4 fun μ1 nt hN f1 t1 n1 => k_X6_text_20 ?_, fun c2 => absurd rfl c2⟩
    have hl : LDT μ1 (TT f z) (BB f z) (WW f z) nt := ⟨hN.1, n1, fun j hj => ⟨(t1 j (by omega)).1, (t1 j (by omega)).2.1, (t1 j (by omega)).2.2, by have := BB_le (f := f) (z := z) (k := j); omega⟩⟩
    have fr1 : ∀ a, a ≠ 5 → a ≠ 26 → a ≠ 27 → a ≠ 28 → μ1.1 a 0 = μ.1 a 0 := fun a a1 a2 a3 a4 => f1.1 a 0 a1 a2 a3 a4
    have u1 : μ1.1 1 0 3 = nI (e (3 * n)) := by rw [fr1 1 (by decide) (by decide) (by decide) (by decide)]; exact x3
    have p1 : μ1.1 1 0 4 = nI (3 * n) := by rw [fr1 1 (by decide) (by decide) (by decide) (by decide)]; exact x4
    have s1 : μ1.1 1 0 5 = nI n := by rw [fr1 1 (by decide) (by decide) (by decide) (by decide)]; exact x2
    have hnt := hN.1
    -- what is the same behind a reading, and the clearing of the tape
    have same : ∀ μ2, frT (e (3 * n)) (3 * n) μ1 μ2 → ∀ a i j, a ≠ 3 → a ≠ 5 → a ≠ 26 → a ≠ 27 → a ≠ 28 → ¬ (a = 10 ∧ i = 0 ∧ e (3 * n) ≤ j) → ¬ (a = 1 ∧ i = 0 ∧ (j = 3 ∨ j = 4)) → ¬ (a = 11 ∧ i = 0 ∧ 3 * n < j) → (si_ms μ2 5 0 1 0).1 a i j = μ.1 a i j := by
      intro μ2 t2 a i j a3 a5 a26 a27 a28 m1 m2 m3
      rw [ms_eq, if_neg (by omega), t2.1 a i j a3 m1 m2 m3, f1.1 a i a5 a26 a27 a28]
    refine c_readText (u := e (3 * n)) (q := 3 * n) (NT_T0 hN) hl u1 (by omega) p1 (by omega) (fun k' c0 c1 c2 μ2 hr t2 g1 g2 g3 g4 g5 g6 g7 g8 g9 => ?_) (fun k' μ2 hr hk' t2 => ?_)
    · refine k_X6_text_27 (k_X5_clear_0 (k_X6_text_35 ⟨fun _ => k_X1_finish_0 (k_X6_text_59 ?_), fun cc => absurd rfl cc⟩))
      have sm := same μ2 t2
      have e5 : (si_ms μ2 5 0 1 0).1 1 0 5 = nI n := by rw [sm 1 0 5 (by decide) (by decide) (by decide) (by decide) (by decide) (by omega) (by omega) (by omega)]; exact x2
      rw [e5, nI_1]
      have e5' : (si_ms (si_ms μ2 5 0 1 0) 1 0 5 (nI (n + 1))).1 1 0 5 = nI (n + 1) := by rw [ms_eq, if_pos ⟨rfl, rfl, rfl⟩]
      rw [e5', nI_pred]
      have e51 : (si_ms (si_ms μ2 5 0 1 0) 1 0 5 (nI (n + 1))).1 5 0 1 = nI 0 := by rw [ms_eq, if_neg (by omega), ms_eq, if_pos ⟨rfl, rfl, rfl⟩]; rfl
      have nw : ∀ a i j, ¬ (a = 1 ∧ i = 0 ∧ j = 5) → ¬ (a = 5 ∧ i = 0 ∧ j = 1) → (si_ms (si_ms μ2 5 0 1 0) 1 0 5 (nI (n + 1))).1 a i j = μ2.1 a i j := fun a i j m1 m2 => by rw [ms_eq, if_neg m1, ms_eq, if_neg m2]
      have sm3 : ∀ a i j, a ≠ 3 → a ≠ 5 → a ≠ 26 → a ≠ 27 → a ≠ 28 → ¬ (a = 10 ∧ i = 0 ∧ e (3 * n) ≤ j) → a ≠ 1 → ¬ (a = 11 ∧ i = 0 ∧ 3 * n < j) → (si_ms (si_ms μ2 5 0 1 0) 1 0 5 (nI (n + 1))).1 a i j = μ.1 a i j := fun a i j a3 a5 a26 a27 a28 m1 m2 m3 => by rw [ms_eq, if_neg (by omega)]; exact sm a i j a3 a5 a26 a27 a28 m1 (by omega) m3
      have s2 : (si_ms (si_ms μ2 5 0 1 0) 1 0 5 (nI (n + 1))).2 = μ.2 := t2.2.trans f1.2.2
      generalize si_ms (si_ms μ2 5 0 1 0) 1 0 5 (nI (n + 1)) = μ3 at e5' e51 nw sm3 s2
      have fTT : fT μ μ3 := fun a i a1 a3 a5 a10 a11 a26 a27 a28 => by funext j; exact sm3 a i j a3 a5 a26 a27 a28 (by omega) a1 (by omega)
      let e' : Nat → Nat := fun k => if k ≤ 3 * n then e k else if k = 3 * n + 1 then e (3 * n) + c0.length else if k = 3 * n + 2 then e (3 * n) + c0.length + c1.length else e (3 * n) + c0.length + c1.length + c2.length
      have E0 : ∀ k, k ≤ 3 * n → e' k = e k := fun k hk => if_pos hk
      have E1 : e' (3 * n + 1) = e (3 * n) + c0.length := by show (if _ then _ else if _ then _ else _) = _; rw [if_neg (by omega), if_pos rfl]
      have E2 : e' (3 * n + 2) = e (3 * n) + c0.length + c1.length := by show (if _ then _ else if _ then _ else if _ then _ else _) = _; rw [if_neg (by omega), if_neg (by omega), if_pos rfl]
      have E3 : e' (3 * n + 3) = e (3 * n) + c0.length + c1.length + c2.length := by show (if _ then _ else if _ then _ else if _ then _ else _) = _; rw [if_neg (by omega), if_neg (by omega), if_neg (by omega)]
      have h9 := b4 (3 * n) (by omega)
      have hbk : bk μ3 (n + 1) e' := by
        refine ⟨by omega, fun k hk => ?_, fun k hk => ?_, fun k hk => ?_⟩
        · by_cases ck : k ≤ 3 * n
          · rw [E0 k ck, sm3 11 0 k (by decide) (by decide) (by decide) (by decide) (by decide) (by omega) (by decide) (by omega)]; exact b2 k ck
          · rcases (show k = 3 * n + 1 ∨ k = 3 * n + 2 ∨ k = 3 * n + 3 by omega) with rfl | rfl | rfl
            · rw [E1, nw 11 0 _ (by omega) (by omega)]; exact g4
            · rw [E2, nw 11 0 _ (by omega) (by omega)]; exact g5
            · rw [E3, nw 11 0 _ (by omega) (by omega)]; exact g6
        · by_cases ck : k < 3 * n
          · rw [E0 k (by omega), E0 (k + 1) (by omega)]; exact b3 k ck
          · rcases (show k = 3 * n ∨ k = 3 * n + 1 ∨ k = 3 * n + 2 by omega) with rfl | rfl | rfl
            · rw [E0 _ (by omega), E1]; omega
            · rw [E1, show 3 * n + 1 + 1 = 3 * n + 2 by omega, E2]; omega
            · rw [E2, show 3 * n + 2 + 1 = 3 * n + 3 by omega, E3]; omega
        · by_cases ck : k ≤ 3 * n
          · rw [E0 k ck]; exact b4 k ck
          · rcases (show k = 3 * n + 1 ∨ k = 3 * n + 2 ∨ k = 3 * n + 3 by omega) with rfl | rfl | rfl
            · rw [E1]; omega
            · rw [E2]; omega
            · rw [E3]; omega
      have e33 : 3 * (n + 1) = 3 * n + 3 := by omega
      have hbx : bkx μ3 (n + 1) e' := by
        refine ⟨by omega, e5', ?_, ?_, ?_⟩
        · rw [e33, E3, nw 1 0 3 (by omega) (by omega)]; exact g1
        · rw [e33, nw 1 0 4 (by omega) (by omega)]; exact g3
        · rw [e33, E3]; omega
      have hCI := CI_text hC fTT (Nat.le_succ n) hbk hbx e51
      refine ok k' c0 c1 c2 c hr μ3 _ ⟨fun a i ha => ?_, s2⟩ hCI (fun t ht p hp nm => ?_) (fun nm => ⟨?_, ?_, ?_⟩)
      · have := rT_or ha
        exact fTT a i (by omega) (by omega) (by omega) (by omega) (by omega) (by omega) (by omega) (by omega)
      · rw [h2]
        exact tv_ag b3 (fun j hj => sm3 10 0 j (by decide) (by decide) (by decide) (by decide) (by decide) (by omega) (by decide) (by omega)) E0 ht hp
      · refine V_new (E0 _ (by omega)) E1 (fun i hi => ?_)
        rw [nw 10 0 _ (by omega) (by omega)]; exact g7 i hi
      · refine V_new E1 (by rw [show 3 * n + 1 + 1 = 3 * n + 2 by omega]; exact E2) (fun i hi => ?_)
        rw [nw 10 0 _ (by omega) (by omega)]; exact g8 i hi
      · refine V_new E2 (by rw [show 3 * n + 2 + 1 = 3 * n + 3 by omega]; exact E3) (fun i hi => ?_)
        rw [nw 10 0 _ (by omega) (by omega)]; exact g9 i hi
    · have hB : ¬ nI (BB f z k') = -1 := nI_neg1 (by have := BB_le (f := f) (z := z) (k := k'); omega)
      refine k_X6_text_27 (k_X5_clear_0 (k_X6_text_35 ⟨fun cc => absurd cc hB, fun _ => ?_⟩))
      have sm := same μ2 t2
      have e5 : (si_ms μ2 5 0 1 0).1 1 0 5 = nI n := by rw [sm 1 0 5 (by decide) (by decide) (by decide) (by decide) (by decide) (by omega) (by omega) (by omega)]; exact x2
      have e51 : (si_ms μ2 5 0 1 0).1 5 0 1 = nI 0 := by rw [ms_eq, if_pos ⟨rfl, rfl, rfl⟩]; rfl
      have s2 : (si_ms μ2 5 0 1 0).2 = μ.2 := t2.2.trans f1.2.2
      generalize si_ms μ2 5 0 1 0 = μ3 at sm e5 e51 s2
      have e3n : nI n * 3 = nI (3 * n) := by
        have e3 : (3 : Int32) = nI 3 := rfl
        rw [e3, pk_mul, Nat.mul_comm]
      have e19 : Int32.ofNat 19 = nI 19 := rfl
      refine k_X1_dropUnfinished_0 ⟨fun hn => ?_, fun _ => ?_⟩
      · rw [e5, e3n, ms_eq, if_pos ⟨rfl, rfl, rfl⟩, e19, nI_le8 (by omega) (by omega)] at hn; omega
      · rw [e5, e3n]
        have e4 : (si_ms μ3 1 0 4 (nI (3 * n))).1 1 0 4 = nI (3 * n) := by rw [ms_eq, if_pos ⟨rfl, rfl, rfl⟩]
        rw [e4, nI_c (by omega)]
        have e11 : (si_ms μ3 1 0 4 (nI (3 * n))).1 11 0 (3 * n) = nI (e (3 * n)) := by
          rw [ms_eq, if_neg (by omega), sm 11 0 _ (by decide) (by decide) (by decide) (by decide) (by decide) (by omega) (by omega) (by omega)]; exact b2 _ (by omega)
        rw [e11]
        refine ⟨vp_in_nI (by omega) (by omega), k_X6_text_47 ?_⟩
        have nw : ∀ a i j, ¬ (a = 1 ∧ i = 0 ∧ (j = 3 ∨ j = 4)) → (si_ms (si_ms μ3 1 0 4 (nI (3 * n))) 1 0 3 (nI (e (3 * n)))).1 a i j = μ3.1 a i j := fun a i j m1 => by rw [ms_eq, if_neg (by omega), ms_eq, if_neg (by omega)]
        have w3 : (si_ms (si_ms μ3 1 0 4 (nI (3 * n))) 1 0 3 (nI (e (3 * n)))).1 1 0 3 = nI (e (3 * n)) := by rw [ms_eq, if_pos ⟨rfl, rfl, rfl⟩]
        have w4 : (si_ms (si_ms μ3 1 0 4 (nI (3 * n))) 1 0 3 (nI (e (3 * n)))).1 1 0 4 = nI (3 * n) := by rw [ms_eq, if_neg (by omega)]; exact e4
        have s3 : (si_ms (si_ms μ3 1 0 4 (nI (3 * n))) 1 0 3 (nI (e (3 * n)))).2 = μ.2 := s2
        generalize si_ms (si_ms μ3 1 0 4 (nI (3 * n))) 1 0 3 (nI (e (3 * n))) = μ4 at nw w3 w4 s3
        have fTT : fT μ μ4 := fun a i a1 a3 a5 a10 a11 a26 a27 a28 => by funext j; rw [nw a i j (by omega)]; exact sm a i j a3 a5 a26 a27 a28 (by omega) (by omega) (by omega)
        have hbk : bk μ4 n e := ⟨b1, fun k hk => by rw [nw 11 0 k (by omega), sm 11 0 k (by decide) (by decide) (by decide) (by decide) (by decide) (by omega) (by omega) (by omega)]; exact b2 k hk, b3, b4⟩
        have hbx : bkx μ4 n e := ⟨x1, by rw [nw 1 0 5 (by omega)]; exact e5, w3, w4, x5⟩
        have hCI := CI_text hC fTT (Nat.le_refl n) hbk hbx (by rw [nw 5 0 1 (by omega)]; exact e51)
        refine bad k' c hr μ4 _ ⟨fun a i ha => ?_, s3⟩ hCI (fun t ht p hp nm => ?_)
        · have := rT_or ha
          exact fTT a i (by omega) (by omega) (by omega) (by omega) (by omega) (by omega) (by omega) (by omega)
        · rw [h2]
          exact tv_ag b3 (fun j hj => by rw [nw 10 0 j (by omega)]; exact sm 10 0 j (by decide) (by decide) (by decide) (by decide) (by decide) (by omega) (by omega) (by omega)) (fun _ _ => rfl) ht hp
  · rw [x2, e6, nI_lt8 (by omega) (by omega)] at c; omega
end TY
