/-! the reference: list, image, back -/
noncomputable def nc (P : Nat → Prop) : Nat → Nat → Nat
  | 0, _ => 0
  | n + 1, k => ic (P k) 1 0 + nc P n (k + 1)
theorem nc_mo {P P' : Nat → Prop} : ∀ (n k : Nat), (∀ i, k ≤ i → i < k + n → P i → P' i) → nc P n k ≤ nc P' n k
  | 0, _, _ => Nat.le_refl _
  | n + 1, k, h => by
    have z := nc_mo n (k + 1) (fun i h1 h2 => h i (by omega) (by omega))
    rw [nc, nc]
    by_cases c : P k
    · rw [ic_t c, ic_t (h k (by omega) (by omega) c)]; omega
    · rw [ic_f c]
      by_cases c' : P' k
      · rw [ic_t c']; omega
      · rw [ic_f c']; omega
theorem nc_cg {P P' : Nat → Prop} {n k : Nat} (h : ∀ i, k ≤ i → i < k + n → (P i ↔ P' i)) : nc P n k = nc P' n k := Nat.le_antisymm (nc_mo n k (fun i h1 h2 => (h i h1 h2).mp)) (nc_mo n k (fun i h1 h2 => (h i h1 h2).mpr))
theorem nc_z {P : Nat → Prop} : ∀ (n k : Nat), (∀ i, k ≤ i → i < k + n → ¬ P i) → nc P n k = 0
  | 0, _, _ => rfl
  | n + 1, k, h => by rw [nc, ic_f (h k (by omega) (by omega)), nc_z n (k + 1) (fun i h1 h2 => h i (by omega) (by omega))]
theorem nc_le {P : Nat → Prop} : ∀ (n k : Nat), nc P n k ≤ n
  | 0, _ => Nat.le_refl _
  | n + 1, k => by
    have z := nc_le (P := P) n (k + 1)
    rw [nc]
    by_cases c : P k
    · rw [ic_t c]; omega
    · rw [ic_f c]; omega
theorem nc_a {P : Nat → Prop} {q : Nat} (hq : ¬ P q) : ∀ (n k : Nat), k ≤ q → q < k + n → nc (fun i => P i ∨ i = q) n k = nc P n k + 1
  | 0, k, h1, h2 => by omega
  | n + 1, k, h1, h2 => by
    rw [nc, nc]
    by_cases e : k = q
    · subst e
      have z : nc (fun i => P i ∨ i = k) n (k + 1) = nc P n (k + 1) := nc_cg (fun i i1 i2 => ⟨fun a => a.resolve_right (by omega), Or.inl⟩)
      have t : P k ∨ k = k := Or.inr rfl
      rw [z, ic_t t, ic_f hq]; omega
    · rw [nc_a hq n (k + 1) (by omega) (by omega)]
      by_cases c : P k
      · have t : P k ∨ k = q := Or.inl c
        rw [ic_t t, ic_t c]; omega
      · have t : ¬ (P k ∨ k = q) := fun a => a.elim c e
        rw [ic_f t, ic_f c]; omega
def ahP (S : gS) (p q : Nat) : Prop := S 18 q = -1 ∧ ahead S q p
theorem ma_n {S : gS} {p : Nat} : ∀ (n k a : Nat), y_ma S p n k (nI a) = nI (a + nc (ahP S p) n k)
  | 0, _, _ => rfl
  | n + 1, k, a => by
    rw [y_ma, nc]
    by_cases c : ahP S p k
    · have c' : S 18 k = -1 ∧ bc (ahead S k p) ≠ 0 := ⟨c.1, by rw [bc_t c.2]; decide⟩
      rw [if_pos c', ic_t c, nI_1, ma_n n (k + 1) (a + 1)]; congr 1; omega
    · have c' : ¬ (S 18 k = -1 ∧ bc (ahead S k p) ≠ 0) := fun z => c ⟨z.1, bc_n z.2⟩
      rw [if_neg c', ic_f c, ma_n n (k + 1) a]; congr 1; omega
theorem ma_0 {S : gS} {p : Nat} : y_ma S p (gP S) 0 0 = nI (nc (ahP S p) (gP S) 0) := by
  have z := ma_n (S := S) (p := p) (gP S) 0 0
  rw [Nat.zero_add] at z; exact z
theorem nc_ah {S : gS} {p : Nat} (hp : p < gP S) {P : Nat → Prop} (h : ∀ i, i < gP S → ahP S p i → P i) (h2 : P p) : nc (ahP S p) (gP S) 0 + 1 ≤ nc P (gP S) 0 := by
  rw [← nc_a (P := ahP S p) (q := p) (fun z => ah_irr z.2) (gP S) 0 (by omega) (by omega)]
  refine nc_mo _ _ (fun i _ i2 c => ?_)
  rcases c with c | c
  · exact h i (by omega) c
  · rw [c]; exact h2
theorem ma_lt {S : gS} {p q : Nat} (hp : p < gP S) (h1 : S 18 p = -1) (h : ahead S p q) : nc (ahP S p) (gP S) 0 < nc (ahP S q) (gP S) 0 := nc_ah hp (fun i _ c => ⟨c.1, ah_tr c.2 h⟩) ⟨h1, h⟩
theorem ls_u {S : gS} {x : Int32} {p : Nat} (hp : p < gP S) (h1 : S 18 p = -1) (h2 : y_ma S p (gP S) 0 0 = x) (un : ∀ k, k < gP S → S 18 k = -1 → y_ma S k (gP S) 0 0 = x → k = p) : ∀ (n k : Nat), k + n = gP S → k ≤ p → y_ls S x n k = nI p
  | 0, k, hk, kp => by omega
  | n + 1, k, hk, kp => by
    rw [y_ls]
    by_cases c : S 18 k = -1 ∧ y_ma S k (gP S) 0 0 = x
    · rw [if_pos c, un k (by omega) c.1 c.2]
    · have ne : k ≠ p := fun e => c (by rw [e]; exact ⟨h1, h2⟩)
      rw [if_neg c]; exact ls_u hp h1 h2 un n (k + 1) (by omega) (by omega)
theorem ls_n {S : gS} {x : Int32} (h : ∀ k, k < gP S → S 18 k = -1 → y_ma S k (gP S) 0 0 ≠ x) : ∀ (n k : Nat), k + n = gP S → y_ls S x n k = -1
  | 0, _, _ => rfl
  | n + 1, k, hk => by
    have c : ¬ (S 18 k = -1 ∧ y_ma S k (gP S) 0 0 = x) := fun z => h k (by omega) z.1 z.2
    rw [y_ls, if_neg c]; exact ls_n h n (k + 1) (by omega)
/-- the first i of the list are those in m -/
def LM (S : gS) (m i : Nat) : Prop := m < 256 ∧ (∀ q, q < gP S → m.testBit q = true → S 18 q = -1) ∧ (∀ q r, q < gP S → r < gP S → m.testBit q = true → S 18 r = -1 → m.testBit r = false → ahead S q r) ∧ nc (fun q => m.testBit q = true) (gP S) 0 = i
theorem LM.some {S : gS} {m i p : Nat} (h8 : gP S ≤ 8) (h : LM S m i) (e : fb S m (gP S) 0 none = some p) : p < gP S ∧ S 18 p = -1 ∧ y_ls S (nI i) (gP S) 0 = nI p ∧ LM S (m ||| 2 ^ p) (i + 1) := by
  have hb := fb_b (S := S) (m := m)
  rw [e] at hb
  obtain ⟨b1, b2, b3⟩ := hb
  obtain ⟨l1, l2, l3, l4⟩ := h
  have tb : ∀ q, ¬ m.testBit q = true → m.testBit q = false := fun q z => by
    cases hc : m.testBit q with
    | false => rfl
    | true => exact absurd hc z
  have iffq : ∀ q, q < gP S → (ahP S p q ↔ m.testBit q = true) := fun q hq => by
    constructor
    · intro z
      cases hc : m.testBit q with
      | true => rfl
      | false =>
        have ne : q ≠ p := fun e => by rw [e] at z; exact ah_irr z.2
        exact absurd (b3 q hq ⟨z.1, hc⟩ ne) (ah_asy z.2)
    · exact fun z => ⟨l2 q hq z, l3 q p hq b1 z b2.1 b2.2⟩
  have nci : nc (ahP S p) (gP S) 0 = i := by rw [← l4]; exact nc_cg (fun q _ q2 => iffq q (by omega))
  refine ⟨b1, b2.1, ls_u b1 b2.1 (by rw [ma_0, nci]) (fun k hk h18 hm => ?_) (gP S) 0 (by omega) (by omega), ?_⟩
  · rw [ma_0] at hm
    have l1 := nc_le (P := ahP S k) (gP S) 0
    have l2 := nc_le (P := ahP S p) (gP S) 0
    have hm' : nc (ahP S k) (gP S) 0 = i := (nIe (by omega) (by omega)).mp hm
    by_cases ne : k = p
    · exact ne
    · rcases ah_tri (S := S) ne with a | a
      · have := ma_lt hk h18 a; omega
      · have := ma_lt b1 b2.1 a; omega
  · have bo := bt_o m l1 p (by omega)
    refine ⟨bo.2.1, fun q hq z => ?_, fun q r hq hr z1 z2 z3 => ?_, ?_⟩
    · rw [tb_or, Bool.or_eq_true, decide_eq_true_eq] at z
      rcases z with z | z
      · exact l2 q hq z
      · rw [← z]; exact b2.1
    · rw [tb_or, Bool.or_eq_true, decide_eq_true_eq] at z1
      rw [tb_or, Bool.or_eq_false_iff, decide_eq_false_iff_not] at z3
      rcases z1 with z | z
      · exact l3 q r hq hr z z2 z3.1
      · rw [← z]; exact b3 r hr ⟨z2, z3.1⟩ (fun e => z3.2 e.symm)
    · rw [← l4, ← nc_a (P := fun q => m.testBit q = true) (q := p) (by rw [b2.2]; decide) (gP S) 0 (by omega) (by omega)]
      refine nc_cg (fun q _ _ => ?_)
      rw [tb_or, Bool.or_eq_true, decide_eq_true_eq]
      exact ⟨fun a => a.imp id Eq.symm, fun a => a.imp id Eq.symm⟩
theorem LM.none {S : gS} {m i X : Nat} (h8 : gP S ≤ 8) (h : LM S m i) (hX : i ≤ X) (hX7 : X ≤ 7) (e : fb S m (gP S) 0 none = none) : y_ls S (nI X) (gP S) 0 = -1 := by
  have hb := fb_b (S := S) (m := m)
  rw [e] at hb
  obtain ⟨l1, l2, l3, l4⟩ := h
  refine ls_n (fun k hk h18 hm => ?_) (gP S) 0 (by omega)
  have all : ∀ q, q < gP S → S 18 q = -1 → m.testBit q = true := fun q hq z => by
    cases hc : m.testBit q with
    | true => rfl
    | false => exact absurd ⟨z, hc⟩ (hb q hq)
  rw [ma_0] at hm
  have l5 := nc_le (P := ahP S k) (gP S) 0
  have hm' : nc (ahP S k) (gP S) 0 = X := (nIe (by omega) (by omega)).mp hm
  have := nc_ah hk (P := fun q => m.testBit q = true) (fun q hq z => all q hq z.1) (all k hk h18)
  omega
section RX7
variable {sc : si_Sc} {d : Nat} {μ μ' : si_Mm} {Q : si_Po} {n : Nat} {V : VT} {S S' : gS} {K : Option gS} {R : shT} {zz : Nat} {f : Nat → Int32} {w o v x y : Int32}
theorem rc_list (h : RI μ n V S K R zz f) (hq : ∀ μ', rf μ μ' → RI μ' n V S K R zz f → Q (some (.inl (y_ls S x (gP S) 0))) μ') : si_W sc (d + 4) 196 0 [some (.inr (.inr (7, 0))), some (.inl x), none, none, none] [] μ Q := by
  have h8 := h.1.2.1.1
  have q0 := hq μ rf.refl h
  refine k_X7_list_0 (r_in l0 c7 (k_X7_list_9 ⟨fun c => ?_, fun c => ?_⟩))
  · have hk := rg_n (A := 7) (lo := 0) (hi := 7) (by decide) (by decide) (bc_n c)
    generalize x.toNatClampNeg = X at hk
    obtain ⟨hX, rfl, _⟩ := hk
    have lp : ∀ (r i m : Nat), i + r = X → LM S m i → si_W sc (d + 4) 196 25 [some (.inr (.inr (7, 0))), some (.inl (nI X)), some (.inl (nI m)), some (.inl (oI (fb S m (gP S) 0 none))), some (.inl (nI i))] [] μ Q := by
      intro r
      induction r with
      | zero =>
        intro i m hi hL
        have ei : i = X := by omega
        refine k_X7_list_25 ⟨fun _ => ?_, fun hn => absurd ?_ hn⟩
        · cases e : fb S m (gP S) 0 none with
          | none => rw [hL.none h8 (by omega) hX e] at q0; exact q0
          | some p =>
            have z := (hL.some h8 e).2.2.1
            rw [ei] at z
            rw [z] at q0; exact q0
        · rw [nI_le8 (by omega) (by omega)]; omega
      | succ r ih =>
        intro i m hi hL
        refine k_X7_list_25 ⟨fun hn => ?_, fun _ => ⟨fun e => ?_, fun e => ?_⟩⟩
        · rw [nI_le8 (by omega) (by omega)] at hn; omega
        · cases e2 : fb S m (gP S) 0 none with
          | none => rw [hL.none h8 (by omega) hX e2] at q0; exact q0
          | some p =>
            have z := hL.some h8 e2
            rw [e2] at e
            exact absurd e (nI_neg1 (by omega))
        · cases e2 : fb S m (gP S) 0 none with
          | none => rw [e2] at e; exact absurd rfl e
          | some p =>
            have z := hL.some h8 e2
            have bo := bt_o m hL.1 p (by omega)
            have eo : nI m ||| (1 <<< (oI (some p) &&& 31)) = nI (m ||| 2 ^ p) := bo.1
            rw [eo]
            refine r_firstBut bo.2.1 h.1.1 h.1.2.1 (k_X7_list_47 ?_)
            rw [nI_1]
            exact ih (i + 1) _ (by omega) z.2.2.2
    refine r_firstBut (m := 0) (by omega) h.1.1 h.1.2.1 (k_X7_list_21 (lp X 0 0 (by omega) ⟨by omega, fun q _ z => ?_, fun q r _ _ z => ?_, ?_⟩))
    · rw [Nat.zero_testBit] at z; cases z
    · rw [Nat.zero_testBit] at z; cases z
    · exact nc_z _ _ (fun i _ _ z => by rw [Nat.zero_testBit] at z; cases z)
  · have e : y_ls S x (gP S) 0 = -1 := ls_n (fun k hk h18 hm => by
      rw [ma_0] at hm
      have := nc_ah hk (P := fun _ => True) (fun _ _ _ => trivial) trivial
      have l := nc_le (P := fun _ => True) (gP S) 0
      exact bc_0 c (by rw [← hm]; exact ⟨nI_pos' (by omega), nI_le (b := 7) (by omega) (by decide)⟩)) (gP S) 0 (by omega)
    rw [e] at q0; exact q0
end RX7
