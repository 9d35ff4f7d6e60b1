/-! Reader: the class reads the tokens into codes -/
def LDT (μ : si_Mm) (T : Nat → Int32) (B : Nat → Nat) (W : Nat → Int32) (nt : Nat) : Prop := nt ≤ 160 ∧ μ.1 5 0 6 = nI (nt + 1) ∧ ∀ j, j ≤ nt → μ.1 26 0 j = T j ∧ μ.1 27 0 j = nI (B j) ∧ (T j = 2 → μ.1 28 0 j = W j) ∧ B j ≤ 160
def frR (u : Nat) (μ μ' : si_Mm) : Prop := (∀ a i j, a ≠ 3 → ¬ (a = 10 ∧ i = 0 ∧ u ≤ j) → ¬ (a = 1 ∧ i = 0 ∧ j = 3) → μ'.1 a i j = μ.1 a i j) ∧ μ'.2 = μ.2
theorem frR.rf {u : Nat} {μ : si_Mm} : frR u μ μ := ⟨fun _ _ _ _ _ _ => rfl, rfl⟩
theorem frR.tr {u v : Nat} {μ1 μ2 μ3 : si_Mm} (huv : u ≤ v) (h : frR u μ1 μ2) (g : frR v μ2 μ3) : frR u μ1 μ3 := ⟨fun a i j e1 e2 e3 => (g.1 a i j e1 (fun q => e2 ⟨q.1, q.2.1, by omega⟩) e3).trans (h.1 a i j e1 e2 e3), g.2.trans h.2⟩
theorem frR.m3 {u j : Nat} {μ : si_Mm} {v : Int32} : frR u μ (si_ms μ 3 0 j v) := ⟨fun a i j e1 _ _ => by rw [ms_eq, if_neg (fun q => e1 q.1)], rfl⟩
section RR
variable {sc : si_Sc} {T W : Nat → Int32} {B : Nat → Nat} {nt : Nat}
theorem LDT_R {u : Nat} {μ μ' : si_Mm} (h : frR u μ μ') (hl : LDT μ T B W nt) : LDT μ' T B W nt := ⟨hl.1, by rw [h.1 5 0 6 (by decide) (by omega) (by omega)]; exact hl.2.1, fun j hj => by rw [h.1 26 0 j (by decide) (by omega) (by omega), h.1 27 0 j (by decide) (by omega) (by omega), h.1 28 0 j (by decide) (by omega) (by omega)]; exact hl.2.2 j hj⟩
def PRE (T W : Nat → Int32) (B : Nat → Nat) (nt : Nat) (μ : si_Mm) (k u : Nat) : Prop := μ.1 3 0 2 = nI k ∧ μ.1 3 0 3 = -1 ∧ μ.1 1 0 3 = nI u ∧ k ≤ nt ∧ u + nt ≤ 960 + k ∧ LDT μ T B W nt
/-- a fault stands -/
def FS (T W : Nat → Int32) (B : Nat → Nat) (nt : Nat) (μ : si_Mm) : Prop := (∃ k, k ≤ nt ∧ μ.1 3 0 2 = nI k) ∧ μ.1 3 0 3 ≠ -1 ∧ LDT μ T B W nt
def PO (B : Nat → Nat) (μ : si_Mm) (r : PR) (u : Nat) (μ' : si_Mm) : Prop := match r with
  | (k', some cs) => μ'.1 3 0 2 = nI k' ∧ μ'.1 3 0 3 = -1 ∧ μ'.1 1 0 3 = nI (u + cs.length) ∧ (∀ i, i < cs.length → μ'.1 10 0 (u + i) = cs.getD i 0) ∧ frR u μ μ'
  | (k', none) => μ'.1 3 0 2 = nI k' ∧ μ'.1 3 0 3 = nI (B k') ∧ (∃ v, u ≤ v ∧ v ≤ 960 ∧ μ'.1 1 0 3 = nI v) ∧ frR u μ μ'
theorem PO.z {μ : si_Mm} {k u : Nat} (h : PRE T W B nt μ k u) : PO B μ (k, some []) u μ := ⟨h.1, h.2.1, h.2.2.1, fun i hi => absurd hi (Nat.not_lt_zero i), frR.rf⟩
theorem PO.pre {μ μ' : si_Mm} {k k' u : Nat} {cs : List Int32} (h : PRE T W B nt μ k u) (hp : PO B μ (k', some cs) u μ') (hk : k' ≤ nt) (hc : u + cs.length + nt ≤ 960 + k') : PRE T W B nt μ' k' (u + cs.length) := ⟨hp.1, hp.2.1, hp.2.2.1, hk, hc, LDT_R hp.2.2.2.2 h.2.2.2.2.2⟩
theorem PO.tr {μ μ1 μ2 : si_Mm} {k1 k2 u : Nat} {cs ds : List Int32} (h1 : PO B μ (k1, some cs) u μ1) (h2 : PO B μ1 (k2, some ds) (u + cs.length) μ2) : PO B μ (k2, some (cs ++ ds)) u μ2 := by
  obtain ⟨a1, a2, a3, a4, a5⟩ := h1
  obtain ⟨c1, c2, c3, c4, c5⟩ := h2
  refine ⟨c1, c2, by rw [c3, List.length_append, Nat.add_assoc], fun i hi => ?_, frR.tr (by omega) a5 c5⟩
  rw [List.length_append] at hi
  by_cases e : i < cs.length
  · rw [c5.1 10 0 (u + i) (by decide) (by omega) (by omega), a4 i e]
    simp [List.getD, List.getElem?_append, e]
  · have := c4 (i - cs.length) (by omega)
    rw [show u + cs.length + (i - cs.length) = u + i by omega] at this
    rw [this]
    simp [List.getD, List.getElem?_append, e]
theorem PO.trn {μ μ1 μ2 : si_Mm} {k1 k2 u : Nat} {cs : List Int32} (h1 : PO B μ (k1, some cs) u μ1) (h2 : PO B μ1 (k2, none) (u + cs.length) μ2) : PO B μ (k2, none) u μ2 := ⟨h2.1, h2.2.1, h2.2.2.1.imp fun v hv => ⟨by omega, hv.2⟩, frR.tr (by omega) h1.2.2.2.2 h2.2.2.2⟩
theorem PO.fs {μ μ' : si_Mm} {k' u : Nat} (hl : LDT μ T B W nt) (hk : k' ≤ nt) (h : PO B μ (k', none) u μ') : FS T W B nt μ' := by
  refine ⟨⟨k', hk, h.1⟩, ?_, LDT_R h.2.2.2 hl⟩
  have := (hl.2.2 k' hk).2.2.2
  rw [h.2.1]; exact nI_neg1 (by omega)
variable {d : Nat} {μ : si_Mm} {Q : si_Po} {x : Int32} {k u : Nat}
theorem c_isNext (h : PRE T W B nt μ k u) (hq : Q (some (.inl (bi (T k = x)))) μ) : si_W sc d 39 0 [some (.inr (.inr (3, 0))), some (.inl x)] [] μ Q := by
  obtain ⟨h1, h2, h3, h4, h5, h6, h7, h8⟩ := h
  have ck : (nI k).toNatClampNeg = k := nI_c (by omega)
  refine k_X3_isNext_0 ⟨fun hn => ?_, fun _ => ?_⟩
  · rw [h7, h1, nI_le8 (by omega) (by omega)] at hn; omega
  · rw [h1, ck, (h8 k h4).1]
    refine ⟨vp_in_nI (by omega) (by omega), fun c => ⟨b0, ?_⟩, fun c => ⟨b1, ?_⟩⟩
    · rw [bi_f c] at hq; exact hq
    · rw [bi_t c] at hq; exact hq
theorem c_took (h : PRE T W B nt μ k u) (hn : T k ≠ x → Q (some (.inl 0)) μ) (hy : T k = x → Q (some (.inl 1)) (si_ms μ 3 0 2 (nI (k + 1)))) : si_W sc (d + 1) 40 0 [some (.inr (.inr (3, 0))), some (.inl x)] [] μ Q := by
  refine k_X3_took_0 ⟨fun c => absurd h.2.1 c, fun _ => c_isNext h (k_X3_took_13 ⟨fun c => ⟨b1, ?_⟩, fun c => ⟨b0, hn (bi_0.mp c)⟩⟩)⟩
  rw [h.1, nI_1]; exact hy (bi_n c)
theorem f_took (h : FS T W B nt μ) (hn : Q (some (.inl 0)) μ) : si_W sc (d + 1) 40 0 [some (.inr (.inr (3, 0))), some (.inl x)] [] μ Q := k_X3_took_0 ⟨fun _ => ⟨b0, hn⟩, fun c => absurd c h.2.1⟩
theorem c_fault (h : PRE T W B nt μ k u) (hq : ∀ μ', PO B μ (k, none) u μ' → Q none μ') : si_W sc d 41 0 [some (.inr (.inr (3, 0)))] [] μ Q := by
  obtain ⟨h1, h2, h3, h4, h5, h6, h7, h8⟩ := h
  have ck : (nI k).toNatClampNeg = k := nI_c (by omega)
  refine k_X3_faultHere_0 ⟨fun c => absurd h2 c, fun _ => ⟨fun hn => ?_, fun _ => ?_⟩⟩
  · rw [h7, h1, nI_le8 (by omega) (by omega)] at hn; omega
  · rw [h1, ck, (h8 k h4).2.1]
    refine ⟨vp_in_nI (by omega) (by omega), hq _ ⟨?_, ?_, ⟨u, Nat.le_refl _, by omega, ?_⟩, frR.m3⟩⟩
    · rw [ms_eq, if_neg (by omega)]; exact h1
    · rw [ms_eq, if_pos ⟨rfl, rfl, rfl⟩]
    · rw [ms_eq, if_neg (by omega)]; exact h3
theorem f_fault (h : FS T W B nt μ) (hq : Q none μ) : si_W sc d 41 0 [some (.inr (.inr (3, 0)))] [] μ Q := k_X3_faultHere_0 ⟨fun _ => hq, fun c => absurd c h.2.1⟩
theorem f_isNext (h : FS T W B nt μ) (hq : ∀ y : Int32, Q (some (.inl y)) μ) : si_W sc d 39 0 [some (.inr (.inr (3, 0))), some (.inl x)] [] μ Q := by
  obtain ⟨⟨k, h4, h1⟩, h2, h6, h7, h8⟩ := h
  refine k_X3_isNext_0 ⟨fun _ => ⟨b0, hq _⟩, fun _ => ?_⟩
  rw [h1]
  exact ⟨vp_in_nI (by omega) (by omega), fun c => ⟨b0, hq _⟩, fun c => ⟨b1, hq _⟩⟩
theorem c_expect (h : PRE T W B nt μ k u) (hn : T k ≠ x → ∀ μ', PO B μ (k, none) u μ' → Q none μ') (hy : T k = x → Q none (si_ms μ 3 0 2 (nI (k + 1)))) : si_W sc (d + 2) 42 0 [some (.inr (.inr (3, 0))), some (.inl x)] [] μ Q := by
  refine k_X3_expect_0 (c_took h (fun c => k_X3_expect_5 ⟨fun c2 => absurd rfl c2, fun _ => c_fault h fun μ' p' => k_X3_expect_12 (hn c μ' p')⟩) (fun c => k_X3_expect_5 ⟨fun _ => k_X3_expect_12 (hy c), fun c2 => absurd c2 (by decide)⟩))
theorem f_expect (h : FS T W B nt μ) (hq : Q none μ) : si_W sc (d + 2) 42 0 [some (.inr (.inr (3, 0))), some (.inl x)] [] μ Q := k_X3_expect_0 (f_took h (k_X3_expect_5 ⟨fun c2 => absurd rfl c2, fun _ => f_fault h (k_X3_expect_12 hq)⟩))
theorem f_opened {y : Int32} (h : FS T W B nt μ) (hq : Q (some (.inl 0)) μ) : si_W sc (d + 2) 43 0 [some (.inr (.inr (3, 0))), some (.inl x), some (.inl y)] [] μ Q := by
  have fin : si_W sc (d + 2) 43 17 [some (.inr (.inr (3, 0))), some (.inl x), some (.inl y)] [] μ Q := k_X3_opened_17 (f_took h (k_X3_opened_22 ⟨b0, hq⟩))
  refine k_X3_opened_0 (f_isNext h fun z => k_X3_opened_5 ⟨fun _ => fin, fun _ => ⟨fun _ => fin, fun _ => f_fault h fin⟩⟩)
/-- opened: what is opened at the last level is a fault -/
theorem c_opened {o : Nat} (ho : o ≤ 5) (h : PRE T W B nt μ k u) (hn : T k ≠ x → Q (some (.inl 0)) μ) (hy : T k = x → o < 5 → Q (some (.inl 1)) (si_ms μ 3 0 2 (nI (k + 1)))) (hf : T k = x → o = 5 → ∀ μ', PO B μ (k, none) u μ' → Q (some (.inl 0)) μ') : si_W sc (d + 2) 43 0 [some (.inr (.inr (3, 0))), some (.inl x), some (.inl (nI o))] [] μ Q := by
  have e5 : (5 : Int32) = nI 5 := rfl
  refine k_X3_opened_0 (c_isNext h (k_X3_opened_5 ⟨fun c => ?_, fun c => ⟨fun c2 => ?_, fun c2 => ?_⟩⟩))
  · have c' := bi_0.mp c
    exact k_X3_opened_17 (c_took h (fun c2 => k_X3_opened_22 ⟨b0, hn c2⟩) (fun c2 => absurd c2 c'))
  · have c' := bi_n c
    rw [e5, nI_lt8 (by omega) (by omega)] at c2
    exact k_X3_opened_17 (c_took h (fun c2 => absurd c' c2) (fun _ => k_X3_opened_22 ⟨b1, hy c' c2⟩))
  · have c' := bi_n c
    rw [e5, nI_lt8 (by omega) (by omega)] at c2
    exact c_fault h fun μ' p' => k_X3_opened_17 (f_took (PO.fs h.2.2.2.2.2 h.2.2.2.1 p') (k_X3_opened_22 ⟨b0, hf c' (by omega) μ' p'⟩))
theorem c_add {cs : List Int32} {μ0 : si_Mm} {v : Int32} (hp : PO B μ0 (k, some cs) u μ) (hu : u + cs.length < 960) (hq : ∀ μ', PO B μ0 (k, some (cs ++ [v])) u μ' → Q none μ') : si_W sc d 4 0 [some (.inr (.inr (1, 0))), some (.inl v)] [] μ Q := by
  have cu : (nI (u + cs.length)).toNatClampNeg = u + cs.length := nI_c (by omega)
  have e9 : Int32.ofNat 960 = nI 960 := rfl
  obtain ⟨a1, a2, a3, a4, a5⟩ := hp
  refine k_X1_add_0 ⟨fun hn => ?_, fun _ => ?_⟩
  · rw [a3, e9, nI_le8 (by omega) (by omega)] at hn; omega
  · rw [a3, cu]
    have e1 : (si_ms μ 10 0 (u + cs.length) v).1 1 0 3 = nI (u + cs.length) := by rw [ms_eq, if_neg (by omega)]; exact a3
    rw [e1, nI_1]
    refine ⟨vp_in_nI (by omega) (by omega), hq _ ⟨?_, ?_, ?_, fun i hi => ?_, ⟨fun a i j n1 n2 n3 => ?_, a5.2⟩⟩⟩
    · rw [ms_eq, if_neg (by omega), ms_eq, if_neg (by omega)]; exact a1
    · rw [ms_eq, if_neg (by omega), ms_eq, if_neg (by omega)]; exact a2
    · rw [ms_eq, if_pos ⟨rfl, rfl, rfl⟩, List.length_append, List.length_singleton, Nat.add_assoc]
    · rw [List.length_append, List.length_singleton] at hi
      rw [ms_eq, if_neg (by omega), ms_eq]
      by_cases e : i < cs.length
      · rw [if_neg (by omega), a4 i e]
        simp [List.getD, List.getElem?_append, e]
      · have e2 : i = cs.length := by omega
        rw [if_pos ⟨rfl, rfl, by omega⟩, e2]
        simp [List.getD]
    · rw [ms_eq, if_neg n3, ms_eq, if_neg (by omega)]
      exact a5.1 a i j n1 n2 n3
theorem n_add {μ0 : si_Mm} {v : Int32} (hp : PO B μ0 (k, none) u μ) (hq : ∀ μ', PO B μ0 (k, none) u μ' → Q none μ') : si_W sc d 4 0 [some (.inr (.inr (1, 0))), some (.inl v)] [] μ Q := by
  have e9 : Int32.ofNat 960 = nI 960 := rfl
  have hp0 := hp
  obtain ⟨a1, a2, ⟨q, q1, q2, q3⟩, a5⟩ := hp
  have cu : (nI q).toNatClampNeg = q := nI_c (by omega)
  refine k_X1_add_0 ⟨fun hn => hq μ hp0, fun hn => ?_⟩
  rw [q3, e9, nI_le8 (by omega) (by omega)] at hn
  rw [q3, cu]
  have e1 : (si_ms μ 10 0 q v).1 1 0 3 = nI q := by rw [ms_eq, if_neg (by omega)]; exact q3
  rw [e1, nI_1]
  refine ⟨vp_in_nI (by omega) (by omega), hq _ ⟨?_, ?_, ⟨q + 1, by omega, by omega, ?_⟩, ⟨fun a i j n1 n2 n3 => ?_, a5.2⟩⟩⟩
  · rw [ms_eq, if_neg (by omega), ms_eq, if_neg (by omega)]; exact a1
  · rw [ms_eq, if_neg (by omega), ms_eq, if_neg (by omega)]; exact a2
  · rw [ms_eq, if_pos ⟨rfl, rfl, rfl⟩]
  · rw [ms_eq, if_neg n3, ms_eq, if_neg (by omega)]
    exact a5.1 a i j n1 n2 n3
end RR
