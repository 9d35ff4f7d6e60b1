/-! how it begins -/
theorem ic_if {α : Type} {p : Prop} [Decidable p] {a b : α} : ic p a b = if p then a else b := by
  by_cases h : p
  · rw [ic_t h, if_pos h]
  · rw [ic_f h, if_neg h]
theorem ic_b {α : Type} {p : Prop} {b : Bool} {x y : α} (h : b = true ↔ p) : ic p x y = bif b then x else y := by
  cases b with
  | true => rw [ic_t (h.mp rfl)]; rfl
  | false => rw [ic_f (fun q => by cases h.mpr q)]; rfl
def bL (x : Int32) : Bool := decide (97 ≤ x ∧ x ≤ 122)
def bD (x : Int32) : Bool := decide (48 ≤ x ∧ x ≤ 57)
def bB (x : Int32) : Bool := decide (x = 32 ∨ x = 10)
def bG (b : Int32) : Bool := decide (b = 40 ∨ b = 41 ∨ b = 59 ∨ b = 43 ∨ b = 45 ∨ b = 42 ∨ b = 60 ∨ b = 61)
theorem bL_e {x : Int32} : bL x = true ↔ isL x := decide_eq_true_iff
theorem bD_e {x : Int32} : bD x = true ↔ isD x := decide_eq_true_iff
theorem bB_e {x : Int32} : bB x = true ↔ isB x := decide_eq_true_iff
theorem bG_e {x : Int32} : bG x = true ↔ isG x := decide_eq_true_iff
def skc (P : Int32 → Bool) (f : Nat → Int32) : Nat → Nat → Nat
  | 0, p => p
  | m + 1, p => bif P (f p) then skc P f m (p + 1) else p
theorem sk_e {P : Int32 → Prop} {b : Int32 → Bool} (h : ∀ x, b x = true ↔ P x) {f : Nat → Int32} : ∀ (m p : Nat), skp P f m p = skc b f m p
  | 0, _ => rfl
  | m + 1, p => by rw [skp, skc, ic_b (h (f p)), sk_e h m]
def lbc (f : Nat → Int32) (z p : Nat) : Nat := skc bB f (z - p) p
def wEc (f : Nat → Int32) (z b : Nat) : Nat := skc bL f (z - b) b
def nEc (f : Nat → Int32) (z b : Nat) : Nat := skc bD f (z - b) b
noncomputable def wcfc (l : List Int32) : Nat → Nat → Int32
  | 0, _ => 1
  | m + 1, w => if l = si_sb.getD w [] then cw w else wcfc l m (w + 1)
theorem wcf_e {l : List Int32} : ∀ (m w : Nat), wcf l m w = wcfc l m w
  | 0, _ => rfl
  | m + 1, w => by rw [wcf, wcfc, ic_if, wcf_e m]
noncomputable def lTc (f : Nat → Int32) (z p : Nat) : Int32 := if z ≤ lbc f z p then 0 else bif bL (f (lbc f z p)) then wcfc (wl f (lbc f z p) (wEc f z (lbc f z p))) 12 0 else bif bD (f (lbc f z p)) then (if nEc f z (lbc f z p) - lbc f z p ≤ 4 then 2 else 1) else bif bG (f (lbc f z p)) then f (lbc f z p) else 1
def lEc (f : Nat → Int32) (z p : Nat) : Nat := if z ≤ lbc f z p then lbc f z p else bif bL (f (lbc f z p)) then wEc f z (lbc f z p) else bif bD (f (lbc f z p)) then nEc f z (lbc f z p) else lbc f z p + 1
def lWc (f : Nat → Int32) (z p : Nat) : Int32 := nval f (nEc f z (lbc f z p) - lbc f z p) (lbc f z p) 0
def enc (f : Nat → Int32) (z : Nat) : Nat → Nat
  | 0 => 0
  | k + 1 => lEc f z (enc f z k)
theorem lb_e {f : Nat → Int32} {z p : Nat} : lb f z p = lbc f z p := sk_e (fun _ => bB_e) _ _
theorem wE_e {f : Nat → Int32} {z p : Nat} : wE f z p = wEc f z p := sk_e (fun _ => bL_e) _ _
theorem nE_e {f : Nat → Int32} {z p : Nat} : nE f z p = nEc f z p := sk_e (fun _ => bD_e) _ _
theorem lT_e {f : Nat → Int32} {z p : Nat} : lT f z p = lTc f z p := by
  unfold lT lTc wc
  rw [lb_e, wE_e, nE_e, wcf_e, ic_if, ic_b bL_e, ic_b bD_e, ic_if, ic_b bG_e]
theorem lE_e {f : Nat → Int32} {z p : Nat} : lE f z p = lEc f z p := by
  unfold lE lEc
  rw [lb_e, wE_e, nE_e, ic_if, ic_b bL_e, ic_b bD_e]
theorem lW_e {f : Nat → Int32} {z p : Nat} : lW f z p = lWc f z p := by
  unfold lW lWc
  rw [lb_e, nE_e]
theorem en_e {f : Nat → Int32} {z : Nat} : ∀ k, en f z k = enc f z k
  | 0 => rfl
  | k + 1 => by rw [en, enc, en_e k, lE_e]
theorem TT_e {f : Nat → Int32} {z : Nat} : TT f z = fun k => lTc f z (enc f z k) := by
  funext k
  unfold TT
  rw [en_e, lT_e]
theorem WW_e {f : Nat → Int32} {z : Nat} : WW f z = fun k => lWc f z (enc f z k) := by
  funext k
  unfold WW
  rw [en_e, lW_e]
def t0 : List Int32 := [100, 105, 103, 115, 32, 57, 32, 59, 32, 119, 101, 101, 100, 115, 32, 49, 50, 32, 59, 32, 115, 116, 97, 121, 115, 32, 50, 48, 32, 59, 32, 32]
theorem t0_q : q_text (fun k => lTc (fun i => t0.getD i 0) 32 (enc (fun i => t0.getD i 0) 32 k)) (fun k => lWc (fun i => t0.getD i 0) 32 (enc (fun i => t0.getD i 0) 32 k)) = (9, some ([9], [12], [20])) := by decide +kernel
theorem t0_b : ∀ i, i < 32 → 0 ≤ (t0.getD i 0).toInt := by decide +kernel
theorem m0_1 : (∀ k, k < 4 → mu_0.1 11 0 k = nI k) ∧ mu_0.1 1 0 5 = 1 ∧ mu_0.1 1 0 3 = 3 ∧ mu_0.1 1 0 4 = 3 ∧ mu_0.1 5 0 1 = 0 ∧ mu_0.1 6 0 8 = 0 ∧ mu_0.1 10 0 0 = 9 ∧ mu_0.1 10 0 1 = 12 ∧ mu_0.1 10 0 2 = 20 := by decide +kernel
theorem m0_2 : ∀ t, t < 4 → mu_0.1 23 0 t = -1 ∧ mu_0.1 24 0 t = 0 := by decide +kernel
theorem m0_3 : mu_0.1 7 0 7 = mu_0.1 2 0 2 ∧ mu_0.1 7 0 8 = mu_0.1 2 0 3 ∧ mu_0.1 7 0 9 = mu_0.1 2 0 4 ∧ mu_0.1 7 0 4 = mu_0.1 2 0 5 ∧ mu_0.1 7 0 14 = mu_0.1 2 0 6 ∧ mu_0.1 2 0 6 = 0 ∧ mu_0.1 2 0 5 = 0 ∧ mu_0.1 2 0 2 = 0 ∧ ∀ s, s < 6 → mu_0.1 35 0 s = mu_0.1 14 0 s ∧ mu_0.1 32 0 s = mu_0.1 15 0 s := by decide +kernel
theorem m0_4 : mu_0.1 30 0 0 = 32 ∧ (∀ i, i < 32 → mu_0.1 29 0 i = t0.getD i 0) ∧ mu_0.1 7 0 3 = 1 ∧ mu_0.1 7 0 6 = 0 ∧ mu_0.1 7 0 38 = -1 ∧ ∀ t, t < 4 → mu_0.1 41 0 t = 0 := by decide +kernel
theorem m0_5 : ∀ g, g < 3 → ∀ a, a < 22 → gt a = true → m0_len a g 16 = true := by decide +kernel
theorem m0_6 : ∀ g, g < 3 → ∀ a, a < 22 → gt a = true → ∀ k, k < 16 → loV a k ≤ (mu_0.1 a g k).toInt ∧ (mu_0.1 a g k).toInt ≤ hiV a k := by decide +kernel
theorem lh0 {a k : Nat} (h : a ≠ 2 ∨ 16 ≤ k) : loV a k ≤ 0 ∧ 0 ≤ hiV a k := by
  unfold loV hiV
  constructor
  · repeat' split
    all_goals omega
  · repeat' split
    all_goals omega
theorem m0_gr {g : Nat} (hg : g < 3) : gr (vw mu_0 g) := by
  intro a k
  unfold vw
  by_cases e : gt a = true
  · rw [if_pos e]
    have ha : a < 22 := by
      unfold gt at e
      rw [Bool.or_eq_true, Bool.and_eq_true, Nat.beq_eq, Nat.ble_eq, Nat.ble_eq] at e
      omega
    by_cases hk : k < 16
    · exact m0_6 g hg a ha e k hk
    · rw [m0_z (m0_5 g hg a ha e) (show 16 ≤ k by omega), i_0]; exact lh0 (Or.inr (by omega))
  · rw [if_neg e]
    show loV a k ≤ (0 : Int32).toInt ∧ (0 : Int32).toInt ≤ hiV a k
    rw [i_0]
    exact lh0 (Or.inl (fun z => e (by rw [z]; rfl)))
theorem cd1 {cd : Nat → Int32} {a : Nat} {c : Int32} (h : cd a = c) : ∀ i, i < [c].length → cd (a + i) = [c].getD i 0 := fun i hi => by
  have e : i = 0 := by
    have z : i < 1 := hi
    omega
  subst e; exact h
def r0 : shT := (fun _ => -1, fun _ => 0, fun _ _ => 0)
theorem begin_ok : ∃ n V S K R zz f, CI mu_0 n V S K R zz f ∧ RI mu_0 n V S K R zz f := by
  obtain ⟨a1, a2, a3, a4, a5, a6, a7, a8, a9⟩ := m0_1
  obtain ⟨b1, b2, b3, b4, b5, b6, b7, b8, b9⟩ := m0_3
  obtain ⟨c1, c2, c3, c4, c5, c6⟩ := m0_4
  have v2 : ∀ k, vw mu_0 0 2 k = mu_0.1 2 0 k := fun k => by rw [vw_at (by decide)]
  have hP : gP (vw mu_0 0) = 0 := by
    have z : vw mu_0 0 2 6 = 0 := (v2 6).trans b6
    unfold gP
    rw [z]; rfl
  have hR : gR (vw mu_0 0) = 0 := by
    have z : vw mu_0 0 2 5 = 0 := (v2 5).trans b7
    unfold gR
    rw [z]; rfl
  have hw : gw (vw mu_0 0) 1 := by
    refine ⟨by rw [hP]; omega, ?_, by rw [hR]; omega, ?_, fun p hp => ?_⟩
    · rw [hP]; exact (v2 6).trans b6
    · rw [hR]; exact (v2 5).trans b7
    · rw [hP] at hp; omega
  have hv : vr (y_V (mu_0.1 10 0) id) := vr_V
  have nw : ∀ nm, y_V (mu_0.1 10 0) id 0 0 nm = cl (evl nm [9]) ∧ y_V (mu_0.1 10 0) id 0 1 nm = cl (evl nm [12]) ∧ y_V (mu_0.1 10 0) id 0 2 nm = cl (evl nm [20]) := fun nm => by
    exact ⟨V_new (a := 0) rfl rfl (cd1 a7), V_new (a := 1) rfl rfl (cd1 a8), V_new (a := 2) rfl rfl (cd1 a9)⟩
  have h8 : (2 : Nat) = 2 := rfl
  refine ⟨1, y_V (mu_0.1 10 0) id, vw mu_0 0, none, r0, 0, fun _ => 0, ⟨id, ⟨⟨by omega, fun k hk => a1 k (by omega), fun k _ => Nat.le_succ k, fun k hk => ?_⟩, rfl, hw, m0_gr (by omega), m0_gr (by omega), m0_gr (by omega)⟩, rfl, ⟨by omega, a2, a3, a4, ?_⟩, ⟨by omega, a5, fun i hi => absurd hi (Nat.not_lt_zero i)⟩, fun t ht => ⟨(m0_2 t ht).1, (m0_2 t ht).2, Nat.zero_le _, fun i hi => absurd hi (Nat.not_lt_zero i)⟩, a6, ?_⟩, ⟨⟨?_, ?_, ?_, ?_, ?_, fun s hs => ?_, fun p hp => ?_⟩, hw, m0_gr (by omega), by omega, fun t ht => ?_, hv⟩, c3, ⟨c4, by omega, fun i hi => absurd hi (Nat.not_lt_zero i)⟩, fun t ht => ⟨Nat.zero_le _, fun _ => c6 t ht, fun ne => absurd rfl ne⟩, c5⟩
  · show k ≤ 960
    omega
  · show (3 : Nat) ≤ 160
    omega
  · unfold yr
    rw [v2, b8]; decide
  · rw [v2]; exact b1
  · rw [v2]; exact b2
  · rw [v2]; exact b3
  · rw [v2]; exact b4
  · rw [v2]; exact b5
  · rw [vw_at (a := 14) (by decide), vw_at (a := 15) (by decide)]; exact b9 s hs
  · rw [hP] at hp; omega
  · have et : t = 0 := by omega
    subst et
    refine ⟨fun i => t0.getD i 0, 32, by omega, c1, fun i hi => ⟨?_, t0_b i hi⟩, 9, [9], [12], [20], ?_, nw⟩
    · rw [show 160 * 0 + i = i by omega]; exact c2 i hi
    · rw [TT_e, WW_e]; exact t0_q
theorem st_Main_ok : st_Main := fun sc hsc => main_of begin_ok hsc
