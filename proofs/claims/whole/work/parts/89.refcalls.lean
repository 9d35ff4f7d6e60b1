/-! the reference's whole state; its first calls -/
def RR (μ : si_Mm) (R : shT) : Prop := ∀ t, t < 4 → R.2.1 t ≤ 40 ∧ (R.1 t = -1 → μ.1 41 0 t = 0) ∧ (R.1 t ≠ -1 → μ.1 41 0 t = 1 ∧ μ.1 42 0 t = R.1 t ∧ μ.1 43 0 t = nI (R.2.1 t) ∧ ∀ i, i < R.2.1 t → μ.1 44 0 (40 * t + i) = R.2.2 t i)
def RKp (μ : si_Mm) (S2 : gS) : Prop := μ.1 7 0 39 = S2 2 2 ∧ μ.1 7 0 40 = S2 2 3 ∧ μ.1 7 0 41 = S2 2 4 ∧ μ.1 7 0 42 = S2 2 5 ∧ μ.1 7 0 38 = nI (gP S2) ∧ (∀ s, s < 6 → μ.1 38 0 s = S2 14 s ∧ μ.1 39 0 s = S2 15 s) ∧ ∀ p, p < gP S2 → μ.1 40 0 p = S2 17 p ∧ μ.1 38 0 (6 + 4 * p) = S2 18 p ∧ μ.1 38 0 (6 + 4 * p + 3) = S2 21 p ∧ (0 ≤ S2 18 p → μ.1 38 0 (6 + 4 * p + 1) = S2 19 p ∧ μ.1 38 0 (6 + 4 * p + 2) = S2 20 p)
def RK (μ : si_Mm) (S : gS) (K : Option gS) : Prop := match K with
  | none => μ.1 7 0 38 = -1
  | some S2 => RKp μ S2 ∧ gP S2 ≤ gP S ∧ ∀ p, p < gP S2 → S2 16 p = S 16 p
def RI (μ : si_Mm) (n : Nat) (V : VT) (S : gS) (K : Option gS) (R : shT) (zz : Nat) (f : Nat → Int32) : Prop := RG μ n V S ∧ μ.1 7 0 3 = nI n ∧ (μ.1 7 0 6 = nI zz ∧ zz ≤ 160 ∧ ∀ i, i < zz → μ.1 31 0 i = f i ∧ 0 ≤ (f i).toInt) ∧ RR μ R ∧ RK μ S K
/-- the reference's fields and rows of the garden and of thought -/
def Jo (j : Nat) : Bool := !(Nat.beq j 3 || Nat.beq j 6 || Nat.ble 38 j)
def Ao (a : Nat) : Bool := Nat.ble 32 a && Nat.ble a 37
theorem Jo_i {j : Nat} : Jo j = true ↔ ¬ (j = 3 ∨ j = 6 ∨ 38 ≤ j) := by
  unfold Jo
  rw [Bool.not_eq_true', Bool.or_eq_false_iff, Bool.or_eq_false_iff]
  constructor
  · intro h q
    rcases q with q | q | q
    · rw [q] at h; exact absurd h.1.1 (by decide)
    · rw [q] at h; exact absurd h.1.2 (by decide)
    · have h3 : Nat.ble 38 j = true := Nat.ble_eq.mpr q
      have h4 := h.2
      rw [h3] at h4; cases h4
  · intro h
    refine ⟨⟨?_, ?_⟩, ?_⟩
    · cases hc : Nat.beq j 3 with
      | false => rfl
      | true => rw [Nat.beq_eq] at hc; exact absurd (Or.inl hc) h
    · cases hc : Nat.beq j 6 with
      | false => rfl
      | true => rw [Nat.beq_eq] at hc; exact absurd (Or.inr (Or.inl hc)) h
    · cases hc : Nat.ble 38 j with
      | false => rfl
      | true => rw [Nat.ble_eq] at hc; exact absurd (Or.inr (Or.inr hc)) h
theorem Ao_i {a : Nat} : Ao a = true ↔ 32 ≤ a ∧ a ≤ 37 := by unfold Ao; rw [Bool.and_eq_true, Nat.ble_eq, Nat.ble_eq]
theorem Ao_f {a : Nat} (h : ¬ (32 ≤ a ∧ a ≤ 37)) : Ao a = false := by
  cases hc : Ao a with
  | false => rfl
  | true => exact absurd (Ao_i.mp hc) h
theorem fx.go {μ1 μ2 : si_Mm} (h : fx Jg Ag μ1 μ2) : fx Jo Ao μ1 μ2 := h.mo (fun j q => Jo_i.mpr (by have := Jg_i.mp q; omega)) (fun a q => Ao_i.mpr (by have := Ag_i.mp q; omega))
theorem fx.so {μ1 μ2 : si_Mm} (h : fx Js A0 μ1 μ2) : fx Jo Ao μ1 μ2 := h.sg.go
theorem ft.o {μ1 μ2 : si_Mm} (h : ft μ1 μ2) : fx Jo Ao μ1 μ2 := h.1.mo (fun j q => Jo_i.mpr (by have := Jt_i.mp q; omega)) (fun a q => Ao_i.mpr (by have := Au_i.mp q; omega))
theorem fx.o1 {μ : si_Mm} {j : Nat} {v : Int32} (hj : ¬ (j = 3 ∨ j = 6 ∨ 38 ≤ j)) : fx Jo Ao μ (si_ms μ 7 0 j v) := fun a i j' e1 _ => by rw [ms_eq, if_neg (fun q => e1 ⟨q.1, q.2.1, Jo_i.mpr (by rw [q.2.2]; exact hj)⟩)]
theorem fx.oa {μ : si_Mm} {a k : Nat} {v : Int32} (ha : 32 ≤ a ∧ a ≤ 37) : fx Jo Ao μ (si_ms μ a 0 k v) := fun a' i j _ e2 => by
  rw [ms_eq, if_neg (fun q => by rw [q.1, Ao_i.mpr ha] at e2; cases e2)]
theorem rf_of {μ1 μ2 : si_Mm} (h : fx Jo Ao μ1 μ2) : rf μ1 μ2 := fun a i ha => by
  funext j
  have hn : ¬ (a = 7 ∨ 29 ≤ a) := fun q => by
    have : rT a = true := by
      unfold rT
      rw [Bool.or_eq_true, Nat.beq_eq, Nat.ble_eq]; exact q
    rw [this] at ha; cases ha
  exact h a i j (fun q => hn (Or.inl q.1)) (Ao_f (by omega))
section RX
variable {sc : si_Sc} {d : Nat} {μ μ' : si_Mm} {Q : si_Po} {n : Nat} {V : VT} {S S' : gS} {K : Option gS} {R : shT} {zz : Nat} {f : Nat → Int32} {w o v x y : Int32}
theorem RR.of (h : RR μ R) (h1 : μ'.1 41 0 = μ.1 41 0) (h2 : μ'.1 42 0 = μ.1 42 0) (h3 : μ'.1 43 0 = μ.1 43 0) (h4 : μ'.1 44 0 = μ.1 44 0) : RR μ' R := by
  unfold RR; rw [h1, h2, h3, h4]; exact h
theorem RKp.of {S2 : gS} (h : RKp μ S2) (h1 : ∀ j, 38 ≤ j → μ'.1 7 0 j = μ.1 7 0 j) (h2 : μ'.1 38 0 = μ.1 38 0) (h3 : μ'.1 39 0 = μ.1 39 0) (h4 : μ'.1 40 0 = μ.1 40 0) : RKp μ' S2 := by
  unfold RKp
  rw [h1 38 (by omega), h1 39 (by omega), h1 40 (by omega), h1 41 (by omega), h1 42 (by omega), h2, h3, h4]
  exact h
theorem RK.of (h : RK μ S K) (h1 : ∀ j, 38 ≤ j → μ'.1 7 0 j = μ.1 7 0 j) (h2 : μ'.1 38 0 = μ.1 38 0) (h3 : μ'.1 39 0 = μ.1 39 0) (h4 : μ'.1 40 0 = μ.1 40 0) (hk : gP S ≤ gP S' ∧ ∀ p, p < gP S → S' 16 p = S 16 p) : RK μ' S' K := by
  cases K with
  | none => exact (h1 38 (by omega)).trans h
  | some S2 => exact ⟨h.1.of h1 h2 h3 h4, Nat.le_trans h.2.1 hk.1, fun p hp => (h.2.2 p hp).trans (hk.2 p (Nat.lt_of_lt_of_le hp h.2.1)).symm⟩
theorem RI.g (h : RI μ n V S K R zz f) (hf : fx Jo Ao μ μ') (hG : RG μ' n V S') (hk : gP S ≤ gP S' ∧ ∀ p, p < gP S → S' 16 p = S 16 p) : RI μ' n V S' K R zz f := by
  obtain ⟨h1, h2, h3, h4, h5⟩ := h
  have f7 : ∀ j, (j = 3 ∨ j = 6 ∨ 38 ≤ j) → μ'.1 7 0 j = μ.1 7 0 j := fun j hj => hf 7 0 j (fun q => Jo_i.mp q.2.2 hj) (Ao_f (by omega))
  have fa : ∀ a, ¬ (32 ≤ a ∧ a ≤ 37) → a ≠ 7 → μ'.1 a 0 = μ.1 a 0 := fun a ha h7 => by funext k; exact hf a 0 k (fun q => h7 q.1) (Ao_f ha)
  refine ⟨hG, (f7 3 (by omega)).trans h2, ⟨(f7 6 (by omega)).trans h3.1, h3.2.1, fun i hi => ?_⟩, h4.of (fa _ (by omega) (by omega)) (fa _ (by omega) (by omega)) (fa _ (by omega) (by omega)) (fa _ (by omega) (by omega)), h5.of (fun j hj => f7 j (by omega)) (fa _ (by omega) (by omega)) (fa _ (by omega) (by omega)) (fa _ (by omega) (by omega)) hk⟩
  rw [fa 31 (by omega) (by omega)]; exact h3.2.2 i hi
theorem RI.t (h : RI μ n V S K R zz f) (hf : ft μ μ') : RI μ' n V S K R zz f := h.g hf.o (h.1.t hf) ⟨Nat.le_refl _, fun _ _ => rfl⟩
theorem RI.s (h : RI μ n V S K R zz f) (hf : fx Js A0 μ μ') : RI μ' n V S K R zz f := h.g hf.so (h.1.s hf) ⟨Nat.le_refl _, fun _ _ => rfl⟩
theorem w14 (hw : 0 ≤ w ∧ w ≤ 13) : ∃ k, k ≤ 13 ∧ w = nI k := by
  have := rg_n (A := 13) (lo := 0) (hi := 13) (by decide) (by decide) hw
  exact ⟨_, this.1, this.2.1⟩
theorem kn_l {k : Nat} (hk : k ≤ 13) : kn S (nI k) o ↔ (if k < 3 then True else if k = 3 ∨ k = 4 ∨ k = 11 then (0 ≤ o ∧ o ≤ 5) else if k = 5 ∨ k = 9 ∨ k = 10 then isP S o else if k = 8 then (isP S o ∧ S 18 o.toNatClampNeg = -1) else (isP S o ∧ 0 ≤ S 18 o.toNatClampNeg)) := by
  rcases (show k = 0 ∨ k = 1 ∨ k = 2 ∨ k = 3 ∨ k = 4 ∨ k = 5 ∨ k = 6 ∨ k = 7 ∨ k = 8 ∨ k = 9 ∨ k = 10 ∨ k = 11 ∨ k = 12 ∨ k = 13 by omega) with rfl | rfl | rfl | rfl | rfl | rfl | rfl | rfl | rfl | rfl | rfl | rfl | rfl | rfl <;> exact Iff.rfl
theorem nIe {a b : Nat} (ha : a ≤ 1000) (hb : b ≤ 1000) : nI a = nI b ↔ a = b := nI_eq (by omega) (by omega)
theorem lit (k : Nat) : Int32.ofNat k = nI k := rfl
theorem r_isOf {k : Nat} (h : RG μ n V S) (hk : k ≤ 13) (hq : Q (some (.inl (bc (kn S (nI k) o)))) μ) : si_W sc (d + 3) 132 0 [some (.inr (.inr (7, 0))), some (.inl (nI k)), some (.inl o)] [] μ Q := by
  rw [bc_iff (kn_l hk)] at hq
  have e3 : (3 : Int32) = nI 3 := rfl
  have e4 : (4 : Int32) = nI 4 := rfl
  have e5 : (5 : Int32) = nI 5 := rfl
  have e8 : (8 : Int32) = nI 8 := rfl
  have e9 : (9 : Int32) = nI 9 := rfl
  have e10 : (10 : Int32) = nI 10 := rfl
  have e11 : (11 : Int32) = nI 11 := rfl
  have s23 : (k = 3 ∨ k = 4 ∨ k = 11) → si_W sc (d + 3) 132 23 [some (.inr (.inr (7, 0))), some (.inl (nI k)), some (.inl o)] [] μ Q := fun c => by
    rw [if_neg (by omega), if_pos c] at hq
    exact k_X7_isOf_23 (r_isStrip (k_X7_isOf_27 ⟨bc_01 _, hq⟩))
  have s45 : (k = 5 ∨ k = 9 ∨ k = 10) → si_W sc (d + 3) 132 45 [some (.inr (.inr (7, 0))), some (.inl (nI k)), some (.inl o)] [] μ Q := fun c => by
    rw [if_neg (by omega), if_neg (by omega), if_pos c] at hq
    exact k_X7_isOf_45 (r_isOne h.1 h.2.1 (k_X7_isOf_50 (k_X7_isOf_72 ⟨bc_01 _, hq⟩)))
  refine k_X7_isOf_0 ?_
  rw [e3, e4, e5, e8, e9, e10, e11, nI_le8 (by omega) (by omega), nIe (by omega) (by omega), nIe (by omega) (by omega), nIe (by omega) (by omega), nIe (by omega) (by omega), nIe (by omega) (by omega), nIe (by omega) (by omega), nIe (by omega) (by omega)]
  refine ⟨fun c3 => ⟨fun c => s23 (by omega), fun n3 => ⟨fun c => s23 (by omega), fun n4 => ⟨fun n11 => ⟨fun c => s45 (by omega), fun n5 => ⟨fun c => s45 (by omega), fun n9 => ⟨fun n10 => ⟨fun n8 => ?_, fun c8 => ?_⟩, fun c => s45 (by omega)⟩⟩⟩, fun c => s23 (by omega)⟩⟩⟩, fun c3 => ⟨b1, ?_⟩⟩
  · rw [if_neg (by omega), if_neg (by omega), if_neg (by omega), if_neg n8] at hq
    exact r_hasOne h.1 h.2.1 (k_X7_isOf_72 ⟨bc_01 _, hq⟩)
  · rw [if_neg (by omega), if_neg (by omega), if_neg (by omega), if_pos c8] at hq
    exact r_waits h.1 h.2.1 (k_X7_isOf_64 (k_X7_isOf_72 ⟨bc_01 _, hq⟩))
  · rw [if_pos (by omega), bc_t trivial] at hq; exact hq
theorem vl_l {k : Nat} (hk : k ≤ 13) : vl V S (nI k) o = (if k = 0 then S 2 2 else if k = 1 then S 2 3 else if k = 2 then S 2 4 else if k = 3 then S 14 o.toNatClampNeg else if k = 4 then S 15 o.toNatClampNeg else if k = 5 then S 17 o.toNatClampNeg else if k = 6 then S 19 o.toNatClampNeg else if k = 7 then S 20 o.toNatClampNeg else if k = 8 then S 21 o.toNatClampNeg else if k = 9 then S 16 o.toNatClampNeg else if k = 10 then S 18 o.toNatClampNeg else if k = 11 then wI S o.toNatClampNeg else if k = 12 then y_eff S o.toNatClampNeg (V (gR S) 0 (nv S (stO S o.toNatClampNeg) (some o.toNatClampNeg))) else y_remI S o.toNatClampNeg (V (gR S) 2 (nv S (stO S o.toNatClampNeg) (some o.toNatClampNeg)))) := by
  rcases (show k = 0 ∨ k = 1 ∨ k = 2 ∨ k = 3 ∨ k = 4 ∨ k = 5 ∨ k = 6 ∨ k = 7 ∨ k = 8 ∨ k = 9 ∨ k = 10 ∨ k = 11 ∨ k = 12 ∨ k = 13 by omega) with rfl | rfl | rfl | rfl | rfl | rfl | rfl | rfl | rfl | rfl | rfl | rfl | rfl | rfl <;> rfl
set_option maxHeartbeats 2000000 in
theorem r_told {k : Nat} (h : RG μ n V S) (hk : k ≤ 13) (hkn : kn S (nI k) o) (hq : ∀ μ', fx Js A0 μ μ' → Q (some (.inl (vl V S (nI k) o))) μ') : si_W sc (d + 44) 184 0 [some (.inr (.inr (7, 0))), some (.inl o), some (.inl (nI k))] [] μ Q := by
  have h8 := h.2.1.1
  have hR := h.1
  rw [vl_l hk] at hq
  have hkn' := (kn_l hk).mp hkn
  have e0 : (0 : Int32) = nI 0 := rfl
  have e1 : (1 : Int32) = nI 1 := rfl
  have e2 : (2 : Int32) = nI 2 := rfl
  have e3 : (3 : Int32) = nI 3 := rfl
  have e4 : (4 : Int32) = nI 4 := rfl
  have e5 : (5 : Int32) = nI 5 := rfl
  have e6 : (6 : Int32) = nI 6 := rfl
  have e9 : (9 : Int32) = nI 9 := rfl
  have e10 : (10 : Int32) = nI 10 := rfl
  have e11 : (11 : Int32) = nI 11 := rfl
  have e12 : (12 : Int32) = nI 12 := rfl
  have b : (0 : Int32) ≤ nI k ∧ nI k ≤ 13 := ⟨nI_pos' (by omega), nI_le (b := 13) hk (by decide)⟩
  have q0 := hq μ fx.rf
  refine k_X7_told_0 (r_in (b := 13) l0 (by decide +kernel) (k_X7_told_9 ⟨fun c => absurd b (bc_0 c), fun _ => r_isOf h hk (k_X7_told_18 ⟨fun _ => ?_, fun c => absurd hkn (bc_0 c)⟩)⟩))
  rw [e6, e10, e9, nI_le8 (by omega) (by omega), nI_le8 (by omega) (by omega), nI_le8 (by omega) (by omega)]
  have f0 : nI k = 0 ↔ k = 0 := by rw [e0]; exact nIe (by omega) (by omega)
  have f1 : nI k = 1 ↔ k = 1 := by rw [e1]; exact nIe (by omega) (by omega)
  have f2 : nI k = 2 ↔ k = 2 := by rw [e2]; exact nIe (by omega) (by omega)
  have f3 : nI k = 3 ↔ k = 3 := by rw [e3]; exact nIe (by omega) (by omega)
  have f4 : nI k = 4 ↔ k = 4 := by rw [e4]; exact nIe (by omega) (by omega)
  have f10 : nI k = nI 10 ↔ k = 10 := nIe (by omega) (by omega)
  have f11 : nI k = 11 ↔ k = 11 := by rw [e11]; exact nIe (by omega) (by omega)
  have f12 : nI k = 12 ↔ k = 12 := by rw [e12]; exact nIe (by omega) (by omega)
  rw [f0, f1, f2, f3, f4, f10, f11, f12]
  have per : (isP S o) → ∃ p, p < gP S ∧ o = nI p ∧ o.toNatClampNeg = p := fun hp => by
    have := isP_c h.2.1 hp
    exact ⟨_, this.1, this.2, rfl⟩
  refine ⟨fun c6 => ⟨fun c10 => ⟨fun n10 => ⟨fun n11 => ⟨fun n12 => ?_, fun c12 => ?_⟩, fun c11 => ?_⟩, fun c => ?_⟩, fun c10 => ⟨fun c9 => ?_, fun c9 => ?_⟩⟩, fun c6 => ⟨fun n0 => ⟨fun n1 => ⟨fun n2 => ⟨fun n3 => ⟨fun n4 => ?_, fun c => ?_⟩, fun c => ?_⟩, fun c => ?_⟩, fun c => ?_⟩, fun c => ?_⟩⟩
  · have ek : k = 13 := by omega
    subst ek
    rw [if_neg (by decide), if_neg (by decide), if_neg (by decide), if_neg (by decide)] at hkn'
    obtain ⟨p, hp, rfl, ep⟩ := per hkn'.1
    rw [ep] at hkn' hq
    refine r_stays h hp hkn'.2 fun μ1 f1 => k_X7_told_181 ?_
    have q := hq μ1 f1
    rw [if_neg (by decide), if_neg (by decide), if_neg (by decide), if_neg (by decide), if_neg (by decide), if_neg (by decide), if_neg (by decide), if_neg (by decide), if_neg (by decide), if_neg (by decide), if_neg (by decide), if_neg (by decide), if_neg (by decide)] at q
    rcases bc_01 (y_rem S p (V (gR S) 2 (nv S (stO S p) (some p)))) with z | z
    · have z' : y_remI S p (V (gR S) 2 (nv S (stO S p) (some p))) = 0 := z
      rw [z'] at q ⊢; exact ⟨fun _ => q, fun c => absurd rfl c⟩
    · have z' : y_remI S p (V (gR S) 2 (nv S (stO S p) (some p))) = 1 := z
      rw [z'] at q ⊢; exact ⟨fun c => absurd c (by decide), fun _ => q⟩
  · subst c12
    rw [if_neg (by decide), if_neg (by decide), if_neg (by decide), if_neg (by decide)] at hkn'
    obtain ⟨p, hp, rfl, ep⟩ := per hkn'.1
    rw [ep] at hkn' hq
    refine r_tendsOf h hp hkn'.2 fun μ1 f1 => k_X7_told_173 ?_
    have q := hq μ1 f1
    rw [if_neg (by decide), if_neg (by decide), if_neg (by decide), if_neg (by decide), if_neg (by decide), if_neg (by decide), if_neg (by decide), if_neg (by decide), if_neg (by decide), if_neg (by decide), if_neg (by decide), if_neg (by decide), if_pos rfl] at q
    exact q
  · subst c11
    rw [if_neg (by decide), if_pos (by decide)] at hkn'
    obtain ⟨s, hs, rfl⟩ := st_n hkn'
    rw [nI_c (by omega)] at q0
    exact r_whose hR h.2.1 (k_X7_told_159 q0)
  · subst c
    rw [if_neg (by decide), if_neg (by decide), if_pos (by decide)] at hkn'
    obtain ⟨p, hp, rfl, ep⟩ := per hkn'
    rw [ep] at q0
    exact r_stripOf hR hp h8 (k_X7_told_145 q0)
  · have ek : k = 9 := by omega
    subst ek
    rw [if_neg (by decide), if_neg (by decide), if_pos (by decide)] at hkn'
    obtain ⟨p, hp, rfl, ep⟩ := per hkn'
    rw [ep] at q0 ⊢
    rw [(hR.2.2.2.2.2.2 p hp).1]
    exact ⟨vp_in_nI (by omega) (by omega), q0⟩
  · have hkk : k = 6 ∨ k = 7 ∨ k = 8 := by omega
    have hP : isP S o := by
      rcases hkk with rfl | rfl | rfl
      · rw [if_neg (by decide), if_neg (by decide), if_neg (by decide), if_neg (by decide)] at hkn'; exact hkn'.1
      · rw [if_neg (by decide), if_neg (by decide), if_neg (by decide), if_neg (by decide)] at hkn'; exact hkn'.1
      · rw [if_neg (by decide), if_neg (by decide), if_neg (by decide), if_pos (by decide)] at hkn'; exact hkn'.1
    obtain ⟨p, hp, rfl, ep⟩ := per hP
    rw [ep] at q0 hkn'
    obtain ⟨z1, z2, z3, z4, z5⟩ := hR.2.2.2.2.2.2 p hp
    refine k_X7_at_0 (k_X7_told_123 ?_)
    rw [e5, pk_sub (by omega), at_n, nI_c (by omega)]
    refine ⟨vp_in_nI (by omega) (by omega), ?_⟩
    rcases hkk with rfl | rfl | rfl
    · rw [if_neg (by decide), if_neg (by decide), if_neg (by decide), if_neg (by decide)] at hkn'
      rw [show 6 + 4 * p + (6 - 5) = 6 + 4 * p + 1 by omega, (z5 hkn'.2).1]; exact q0
    · rw [if_neg (by decide), if_neg (by decide), if_neg (by decide), if_neg (by decide)] at hkn'
      rw [show 6 + 4 * p + (7 - 5) = 6 + 4 * p + 2 by omega, (z5 hkn'.2).2]; exact q0
    · rw [show 6 + 4 * p + (8 - 5) = 6 + 4 * p + 3 by omega, z4]; exact q0
  · have ek : k = 5 := by omega
    subst ek
    rw [if_neg (by decide), if_neg (by decide), if_pos (by decide)] at hkn'
    obtain ⟨p, hp, rfl, ep⟩ := per hkn'
    rw [ep] at q0 ⊢
    rw [(hR.2.2.2.2.2.2 p hp).2.1]
    exact ⟨vp_in_nI (by omega) (by omega), q0⟩
  · subst c
    rw [if_neg (by decide), if_pos (by decide)] at hkn'
    obtain ⟨s, hs, rfl⟩ := st_n hkn'
    rw [nI_c (by omega)] at q0 ⊢
    rw [(hR.2.2.2.2.2.1 s hs).2]
    exact ⟨vp_in_nI (by omega) (by omega), q0⟩
  · subst c
    rw [if_neg (by decide), if_pos (by decide)] at hkn'
    obtain ⟨s, hs, rfl⟩ := st_n hkn'
    rw [nI_c (by omega)] at q0 ⊢
    rw [(hR.2.2.2.2.2.1 s hs).1]
    exact ⟨vp_in_nI (by omega) (by omega), q0⟩
  · subst c; rw [hR.2.2.1]; exact q0
  · subst c; rw [hR.2.1]; exact q0
  · subst c; rw [hR.1]; exact q0
theorem rc_told (h : RI μ n V S K R zz f) (hq : ∀ μ', rf μ μ' → RI μ' n V S K R zz f → Q (some (.inl (a_told V S o w))) μ') : si_W sc (d + 44) 184 0 [some (.inr (.inr (7, 0))), some (.inl o), some (.inl w)] [] μ Q := by
  by_cases b : 0 ≤ w ∧ w ≤ 13
  · obtain ⟨k, hk, rfl⟩ := w14 b
    by_cases c : kn S (nI k) o
    · refine r_told h.1 hk c fun μ' f' => ?_
      have q := hq μ' (rf_of f'.so) (h.s f')
      rw [a_told_t c] at q; exact q
    · have q := hq μ rf.refl h
      rw [a_told_f c] at q
      exact k_X7_told_0 (r_in (b := 13) l0 (by decide +kernel) (k_X7_told_9 ⟨fun e => absurd b (bc_0 e), fun _ => r_isOf h.1 hk (k_X7_told_18 ⟨fun e => absurd (bc_n e) c, fun _ => k_X7_told_21 q⟩)⟩))
  · have c : ¬ kn S w o := by
      intro hk
      unfold kn at hk
      have ne : ∀ k : Nat, k ≤ 13 → w ≠ nI k := fun k hk e => b (by rw [e]; exact ⟨nI_pos' (by omega), nI_le (b := 13) hk (by decide)⟩)
      rw [if_neg (show ¬ w = 0 from ne 0 (by omega)), if_neg (show ¬ w = 1 from ne 1 (by omega)), if_neg (show ¬ w = 2 from ne 2 (by omega)), if_neg (show ¬ w = 3 from ne 3 (by omega)), if_neg (show ¬ w = 4 from ne 4 (by omega)), if_neg (show ¬ w = 5 from ne 5 (by omega)), if_neg (show ¬ w = 6 from ne 6 (by omega)), if_neg (show ¬ w = 7 from ne 7 (by omega)), if_neg (show ¬ w = 8 from ne 8 (by omega)), if_neg (show ¬ w = 9 from ne 9 (by omega)), if_neg (show ¬ w = 10 from ne 10 (by omega)), if_neg (show ¬ w = 11 from ne 11 (by omega)), if_neg (show ¬ w = 12 from ne 12 (by omega)), if_neg (show ¬ w = 13 from ne 13 (by omega))] at hk
      exact hk
    have q := hq μ rf.refl h
    rw [a_told_f c] at q
    exact k_X7_told_0 (r_in (b := 13) l0 (by decide +kernel) (k_X7_told_9 ⟨fun _ => k_X7_told_21 q, fun e => absurd (bc_n e) b⟩))
end RX
