/-! ===== PROGRAMMES: the component reads the grammar ===== -/
/-- how deep the calls go -/
def ndP (tag d : Nat) : Nat := match tag with
  | 1 => 20 + 8 * (20 - d)
  | 2 => 13 + 8 * (20 - d)
  | 3 => 15 + 5 * (20 - d)
  | 4 => 14 + 5 * (20 - d)
  | 5 => 13 + 5 * (20 - d)
  | 6 => 13 + 5 * (20 - d)
  | 7 => 12 + 5 * (20 - d)
  | 8 => 12 + 5 * (20 - d)
  | 9 => 12 + 5 * (20 - d)
  | 10 => 13 + 5 * (20 - d)
  | 11 => 16 + 5 * (20 - d)
  | 0 => 20 + 8 * (20 - d)
  | 12 => 13 + 8 * (20 - d)
  | _ => 20 + 8 * (20 - d)
section PMS
variable {b x0 : Nat} {t : Tp} {M : Nat}
theorem PO.st {h : AH} {k : Nat} {o1 : Option Ot} {Kq : Vs → AH → Option Ot} {r1 r : Nat × Nat} {P : Prop} (hs : Sh h) (p : PO o1 h b x0 t k r1) (e : r1.1 = 0 ∧ P ∨ r1.1 ≠ 0 ∧ r = r1) (h0 : ∀ h', Sh h' → Kq [.int (nI 0)] h' = some (some (.int (nI 0)), h')) (h1 : r1.1 = 0 → P → ∀ h', SPs h' b x0 t r1.2 → PO (Kq [.int (nI 1)] h') h' b x0 t r1.2 r) : PO (cK o1 Kq []) h b x0 t k r := by
  have := PO.seq (r2 := r) p (fun _ => h0) (fun z h' C => h1 z (by
    rcases e with e | e
    · exact e.2
    · exact absurd z e.1) h' C) hs
  rcases e with e | e
  · rw [if_pos e.1] at this; exact this
  · rw [if_neg e.1] at this; rw [e.2]; exact this
theorem po_push {h : AH} {k n : Nat} (C : SPs h b x0 t k) (hx : scX x0) (hk : k < 4001) (h1 : lk t k ≠ 123) (hn : 8 ≤ n) : PO (E n 317 [.ref x0] h) h b x0 t k (0, k + 1) := by
  obtain ⟨d, rfl⟩ : ∃ d, n = d + 8 := ⟨n - 8, by omega⟩
  obtain ⟨h', a1, a2, a3, a4⟩ := c_push (d := d) C hx hk
  exact ⟨h', a1, a2, a3, fun z => absurd rfl z, fun _ => ⟨Nat.le_succ _, a4, fun i i1 i2 i3 => by
    have i2 : i < k + 1 := i2
    have : i = k := by omega
    rw [this] at i3; exact absurd i3 h1⟩⟩
theorem po_failn {h : AH} {k n : Nat} (C : SPs h b x0 t k) (hx : scX x0) {c : Nat} (hc : c ≠ 0) (hn : 1 ≤ n) : PO (E n 327 [.ref x0, .int (nI c)] h) h b x0 t k (fX t c k, 0) := by
  obtain ⟨d, rfl⟩ : ∃ d, n = d + 1 := ⟨n - 1, by omega⟩
  exact po_fail C hx hc
theorem po_take {h : AH} {k n c : Nat} {r : Nat × Nat} (hM : ME t M) (h4 : M ≤ 4000) (C : SPs h b x0 t k) (hx : scX x0) (h1 : c ≠ 123) (h0 : c ≠ 0) (hc : c < 1000) (hn : 9 ≤ n) (e : tk1 t c k = some r) : PO (E n 318 [.ref x0, .int (nI c)] h) h b x0 t k r := by
  obtain ⟨m, rfl⟩ : ∃ d, n = d + 1 := ⟨n - 1, by omega⟩
  have hs := C.1.1
  have sc := hs.scr hx
  have lb := lk_b (t := t) (k := k)
  unfold tk1 at e
  rw [t_318 hs, ck_ok sc.1, C.2.2.2.1.1]
  simp only [show (nI (lk t k) = nI c) = (lk t k = c) from propext (nI_eq (by omega) (by omega))]
  by_cases q : lk t k = c
  · rw [if_pos q] at e ⊢
    cases e
    have hk := hM.lk (k := k) (by omega)
    rw [ck_ok sc.1]
    refine PO.fin (po_push C hx (by omega) (by omega) (by omega)) hs fun v h' hv hs' => ?_
    rw [t_318_12 hs', t_318_20 hs']; exact id_b hv
  · rw [if_neg q] at e ⊢
    cases e
    rw [ck_ok sc.1]
    refine PO.fin (po_failn C hx (by decide) (by omega)) hs fun v h' hv hs' => ?_
    rw [t_318_20 hs']; exact id_b hv
/-- what follows is open, F, if all goes well -/
def PG (F : Nat → AH → Option Ot) (o : Option Ot) (h : AH) (b x0 : Nat) (t : Tp) (k : Nat) (r : Nat × Nat) : Prop := ∃ h', o = (if r.1 = 0 then F r.2 h' else some (some (.int (nI 0)), h')) ∧ PRs h h' b x0 t k r
theorem PG.st {F : Nat → AH → Option Ot} {h : AH} {k : Nat} {o1 : Option Ot} {Kq : Vs → AH → Option Ot} {r1 r : Nat × Nat} {P : Prop} (hs : Sh h) (p : PO o1 h b x0 t k r1) (e : r1.1 = 0 ∧ P ∨ r1.1 ≠ 0 ∧ r = r1) (h0 : ∀ h', Sh h' → Kq [.int (nI 0)] h' = some (some (.int (nI 0)), h')) (h1 : r1.1 = 0 → P → k ≤ r1.2 → ∀ h', SPs h' b x0 t r1.2 → PG F (Kq [.int (nI 1)] h') h' b x0 t r1.2 r) : PG F (cK o1 Kq []) h b x0 t k r := by
  obtain ⟨g, ge, R⟩ := p
  rw [ge, cK_v]
  rcases e with ⟨e1, e2⟩ | ⟨e1, e2⟩
  · obtain ⟨u, C, -⟩ := R.2.2.2 e1
    obtain ⟨g2, ge2, R2⟩ := h1 e1 e2 u g C
    have q : r1 = (0, r1.2) := Prod.ext e1 rfl
    refine ⟨g2, ?_, PRs.tr (k1 := r1.2) (q ▸ R) R2⟩
    rw [show bz r1.1 = nI 1 by rw [e1]; rfl]; exact ge2
  · subst e2
    refine ⟨g, ?_, R⟩
    rw [if_neg e1, bz_n e1]; exact h0 g (R.1.sh hs)
theorem PG.pre {F : Nat → AH → Option Ot} {h g : AH} {k k1 : Nat} {o : Option Ot} {r : Nat × Nat} (R : PRs h g b x0 t k (0, k1)) (p : PG F o g b x0 t k1 r) : PG F o h b x0 t k r := by
  obtain ⟨g2, ge2, R2⟩ := p
  exact ⟨g2, ge2, PRs.tr R R2⟩
theorem PO.pre {h g : AH} {k k1 : Nat} {o : Option Ot} {r : Nat × Nat} (R : PRs h g b x0 t k (0, k1)) (p : PO o g b x0 t k1 r) : PO o h b x0 t k r := by
  obtain ⟨g2, ge2, R2⟩ := p
  exact ⟨g2, ge2, PRs.tr R R2⟩
theorem PG.po {F : Nat → AH → Option Ot} {h : AH} {k : Nat} {o : Option Ot} {r1 r : Nat × Nat} {P : Prop} (p : PG F o h b x0 t k r1) (e : r1.1 = 0 ∧ P ∨ r1.1 ≠ 0 ∧ r = r1) (h1 : r1.1 = 0 → P → ∀ h', SPs h' b x0 t r1.2 → PO (F r1.2 h') h' b x0 t r1.2 r) : PO o h b x0 t k r := by
  obtain ⟨g, ge, R⟩ := p
  rw [ge]
  rcases e with ⟨e1, e2⟩ | ⟨e1, e2⟩
  · have q : r1 = (0, r1.2) := Prod.ext e1 rfl
    rw [if_pos e1]
    exact PO.pre (k1 := r1.2) (q ▸ R) (h1 e1 e2 g (R.2.2.2 e1).2.1)
  · subst e2
    rw [if_neg e1]
    exact ⟨g, by rw [bz_n e1], R⟩
/-- what holds with fuel N -/
def PIH (b x0 : Nat) (t : Tp) (M N : Nat) : Prop := ∀ (tag d k : Nat) (r : Nat × Nat) (n : Nat) (h : AH), px t N tag d k = some r → SPs h b x0 t k → d ≤ 20 → ndP tag d ≤ n →
  (tag = 1 → PO (E n 265 [.ref x0, .int (nI d)] h) h b x0 t k r) ∧ (tag = 2 → PO (E n 325 [.ref x0, .int (nI d)] h) h b x0 t k r) ∧ (tag = 3 → PO (E n 319 [.ref x0, .int (nI d)] h) h b x0 t k r) ∧ (tag = 4 → PO (E n 357 [.ref x0, .int (nI d)] h) h b x0 t k r) ∧
  (tag = 5 → ∀ i, i ≤ k → PO (Q n 357 12 [some (.ref x0), some (.int (nI d)), some (.int (nI i))] [] h) h b x0 t k r) ∧ (tag = 6 → PO (E n 380 [.ref x0, .int (nI d)] h) h b x0 t k r) ∧ (tag = 7 → ∀ i, i ≤ k → PO (Q n 380 12 [some (.ref x0), some (.int (nI d)), some (.int (nI i))] [] h) h b x0 t k r) ∧
  (tag = 8 → PO (E n 358 [.ref x0, .int (nI d)] h) h b x0 t k r) ∧ (tag = 9 → PO (E n 320 [.ref x0, .int (nI d)] h) h b x0 t k r) ∧ (tag = 10 → PO (E n 321 [.ref x0, .int (nI d)] h) h b x0 t k r) ∧ (tag = 11 → PO (E n 323 [.ref x0, .int (nI d)] h) h b x0 t k r) ∧
  (tag = 0 → ∀ o i, i < k → k ≤ M → 1 ≤ d → o < 4001 → PG (fun j h' => cK (E n 318 [.ref x0, .int (nI 125)] (sA h' (x0 + 2) o (nI j))) (Q n 325 89 [some (.ref x0), none, some (.int (nI o)), none]) []) (Q n 325 39 [some (.ref x0), some (.int (nI (d - 1))), some (.int (nI o)), some (.int (nI i))] [] h) h b x0 t k r) ∧
  (tag = 12 → ∀ i, i ≤ k → PG (fun j h' => if lk t j = 142 then cK (E n 317 [.ref x0] h') (Q n 326 73 [some (.ref x0), some (.int (nI d)), none]) [] else some (some (.int (nI 1)), h')) (Q n 326 12 [some (.ref x0), some (.int (nI d)), some (.int (nI i))] [] h) h b x0 t k r) ∧
  (tag = 13 → d = 0 → ∀ i, i ≤ k → k ≤ M → ∃ h', Q n 210 28 [some (.ref x0), none, some (.int (nI i))] [] h = some (some (.int (nI r.1)), h') ∧ PRs h h' b x0 t k r)
end PMS
