section DS
/-- what a making frame comes to on the machine itself -/
def di_PP (l : Launch) (D : va_G) (cI cZ : ClassId) (d j pc : Nat) (lv : si_Lv) (st : List si_AV) (wd : List di_E) (rr : di_Re) : Prop :=
  ∀ (p : Program) (e : Env) (R : Room) (s : State) (m : MethodId) (args : Array Value) (below : List Frame) (meth : Method) (c : Code) (H : Heap) (locs : List Loc) (cells slots : Nat) (A : Nat → Prop) (QQ : State → Prop) (ls : Array Slot) (ad : Nat → Nat → Nat),
    di_Ctx D cI cZ d j p R s m args meth c A → va_P D si_cls (di_ws ad cI cZ wd) H → va_D A (di_ws ad cI cZ wd) → va_S A s.heap H locs → si_lo ad di_CLs false ls (di_mL j) lv → cells + rr.2.2.2.1 ≤ R.cells → slots + rr.2.2.2.2 ≤ R.slots →
    (∀ ad' H' locs' ls', di_ext wd.length ad ad' → (decode (di_mB j) rr.1 = .ok (.return_, 1) ∨ j = 234) → va_P D si_cls (di_ws ad' cI cZ rr.2.2.1) H' → va_D A (di_ws ad' cI cZ rr.2.2.1) → va_S A s.heap H' locs' → si_lo ad' di_CLs false ls' (di_mL j) rr.2.1 → W p l e R s m args below meth c H' locs' (cells + rr.2.2.2.1) (slots + rr.2.2.2.2) QQ (F0 m rr.1 ls' [])) →
    W p l e R s m args below meth c H locs cells slots QQ (F0 m pc ls (st.map (si_cv ad)))
variable {l : Launch} {D : va_G} {cI cZ : ClassId}
set_option maxHeartbeats 4000000 in
set_option maxRecDepth 20000 in
theorem di_met {d j : Nat} {as : List si_AV} {wd : List di_E} {rr : di_Re} (hP : di_PP l D cI cZ d j 0 (si_pad (di_mL j) (si_enL as)) [] wd rr) (h1 : ∀ v ∈ as, si_lV di_CLs v) (hj : j ∈ di_JC) (hj2 : j ≠ 234) (h2 : si_w8 as ≤ di_mL j) (h3 : ∀ v ∈ as, si_c2 v = false) (ad : Nat → Nat → Nat) (sz : Nat) : Met l (di_mY j) (di_cdc j :: si_tb) (di_rm (d + 1) rr.2.2.2.1 rr.2.2.2.2) (di_pre D ad cI cZ as wd sz) (di_post D ad cI cZ wd rr.2.2.1 (va_A (di_ws ad cI cZ wd) sz)) rr.2.2.2.1 rr.2.2.2.2 (va_A (di_ws ad cI cZ wd) sz) := by
  obtain ⟨m1, m2, m3, m4, m5⟩ := di_mck_e hj
  refine Met.ofW (cc := di_mB j) (maxL := di_mL j) (ret := none) m2 (di_cdc_eq j) ?_
  intro p e s m args below meth c s₁ B hml hv
  obtain ⟨rfl, hsz, hP0, hK, hD0, hE⟩ := hv
  have hx := B.exec
  have hb := B.bytes
  have hr := B.returns
  have hts := atoms_spec (ws := di_cdc j :: si_tb) B.pre
  have hown : s.vm.findClass (di_mY j).cls = some m.cls := findClass_of_methodNamed B.named
  have hnm : meth.name = (di_mY j).name := (name_of_methodNamed B.named B.method).1
  rw [m4] at hown
  have hlocks := B.notSynchronized
  subst hsz
  rw [lg_entry_eq]
  refine hP p e _ s m _ below meth c _ [] 0 0 (va_A (di_ws ad cI cZ wd) s.heap.size) _ _ ad ⟨hx, hb, hml, hown, fun w hw => hts w (List.mem_cons_of_mem _ hw), ?_, ?_, hK, fun q h => Or.inr h, fun e => hnm.trans (m5 e), hE⟩ hP0 hD0.self va_S.rf (si_lo_entry h1 h2 (fun _ => h3)) ?_ ?_ ?_
  · show d + 4 ≤ d + 1 + 3
    omega
  · show 200 * (d + 4) ≤ 200 * (d + 1 + 3)
    exact Nat.le_refl _
  · rw [Nat.zero_add]
    exact Nat.le_refl _
  · rw [Nat.zero_add]
    exact Nat.le_refl _
  · intro ad' H' locs' ls' hext hdc hP' hD' hS' hl'
    rw [Nat.zero_add, Nat.zero_add]
    rcases hdc with hdc | hdc
    · exact W.vret hx hb hr (fun t ht hW => ⟨⟨ad', rfl, hext, by rw [ht]; exact hP', hD'⟩, hS'.F ht⟩) hS'.2.2 hdc
    · exact absurd hdc hj2
theorem di_hF {ad : Nat → Nat → Nat} {wd : List di_E} {A : Nat → Prop} {s : State} {H : Heap} {locs : List Loc} (hA : ∀ q : Nat, s.heap.size ≤ q → A q) (hD : va_D A (di_ws ad cI cZ wd)) (hS : va_S A s.heap H locs) : ∀ q, va_A (di_ws ad cI cZ wd) H.size q → A q := by
  rintro q (⟨k, e, hk⟩ | h)
  · exact hD.2 k (q, e) hk
  · exact hA q (Nat.le_trans hS.1 h)
set_option maxHeartbeats 4000000 in
/-- behind a call -/
theorem di_after {p : Program} {e : Env} {R : Room} {s : State} {m : MethodId} {args : Array Value} {below : List Frame} {meth : Method} {c : Code} {H : Heap} {locs : List Loc} {cells slots : Nat} {A : Nat → Prop} {QQ : State → Prop} {ls : Array Slot} {ad : Nat → Nat → Nat} {d j pc : Nat} {lv : si_Lv} {wd : List di_E} {r1 r2 : di_Re} {r : List si_AV} {st0 : List Value} {aa : Array Value}
    (X : di_Ctx D cI cZ d j p R s m args meth c A) (hD : va_D A (di_ws ad cI cZ wd)) (hS : va_S A s.heap H locs) (hl : si_lo ad di_CLs false ls (di_mL j) lv) (h1 : lv.all (di_okO wd.length) = true) (h2 : r.all (di_okV wd.length) = true)
    (hlen : wd.length ≤ r1.2.2.1.length)
    (hgo : di_PP l D cI cZ d j (pc + 3) lv r r1.2.2.1 r2) (hc : cells + (r1.2.2.2.1 + r2.2.2.2.1) ≤ R.cells) (hs : slots + (r1.2.2.2.2 + r2.2.2.2.2) ≤ R.slots)
    (hQ : ∀ ad' H' locs' ls', di_ext wd.length ad ad' → (decode (di_mB j) r2.1 = .ok (.return_, 1) ∨ j = 234) → va_P D si_cls (di_ws ad' cI cZ r2.2.2.1) H' → va_D A (di_ws ad' cI cZ r2.2.2.1) → va_S A s.heap H' locs' → si_lo ad' di_CLs false ls' (di_mL j) r2.2.1 → W p l e R s m args below meth c H' locs' (cells + (r1.2.2.2.1 + r2.2.2.2.1)) (slots + (r1.2.2.2.2 + r2.2.2.2.2)) QQ (F0 m r2.1 ls' []))
    (hrun : va_Run p l e R s m args below meth c H locs cells slots r1.2.2.2.1 r1.2.2.2.2 (F0 m pc ls st0) (r.map (si_cv ad)) (di_post D ad cI cZ wd r1.2.2.1 (va_A (di_ws ad cI cZ wd) H.size) aa) (va_A (di_ws ad cI cZ wd) H.size)) : W p l e R s m args below meth c H locs cells slots QQ (F0 m pc ls st0) := by
  have X2 := X
  obtain ⟨hx, hb, hml, hown, hts, hRf, hRl, hKK, hA, hin, hE⟩ := X2
  have hF := di_hF hA hD hS
  refine va_callv (a := aa) hrun hS (fun q _ h => hF q h) hF (fun ad1 t H1 locs1 ht hvm hw hB hz1 hk1 hS1 => ?_)
  have e1 := di_map_ext hw h2
  rw [← e1]
  refine hgo p e R s m args below meth c H1 locs1 _ _ A QQ ls ad1 X (by rw [← ht]; exact hB.1) (hB.2.weaken (fun _ q _ hq => hF q.1 hq)) hS1 (di_lo_ext hw h1 hl) (by rw [Nat.add_assoc]; exact hc) (by rw [Nat.add_assoc]; exact hs) ?_
  intro ad2 H2 locs2 ls2 hx2 hdc hP2 hD2 hS2 hl2
  rw [Nat.add_assoc, Nat.add_assoc]
  exact hQ ad2 H2 locs2 ls2 (hw.trans hx2 hlen) hdc hP2 hD2 hS2 hl2
end DS
