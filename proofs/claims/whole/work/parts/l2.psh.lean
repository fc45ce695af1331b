/-! ===== PROGRAMMES: the reference writes statements, for every fuel: together ===== -/
section STV
variable {t : Tp} {M sd : Nat}
theorem psh (h4 : M ≤ 4000) : ∀ N, PSH t M sd N
  | 0 => fun tag d k r n h c y o e => by cases e
  | N + 1 => fun tag d k r n h c y o e S hc hk hd hn => by
    have ihe : PRH t M (4400 * (1 - sd)) N := prh h4 N
    have ih : PSH t M sd N := psh h4 N
    have er : r.1 = 0 → px t (N + 1) tag d k = some (0, r.2) := fun z => by rw [e]; exact congrArg some (Prod.ext z rfl)
    exact ⟨(fun z hc I => by subst z; exact (ps_1 ihe ih h4 e S hc hk hd hn I).wk (fun z _ _ _ _ _ p => ⟨⟨er z, p.1⟩, p.2⟩) (Nat.le_refl _) (Nat.le_refl _) (fun _ _ w => w)),
      (fun z I => by subst z; exact (ps_2 ih h4 e S hc hk hd hn I).wk (fun z _ _ _ _ _ p => ⟨⟨er z, p.1⟩, p.2⟩) (Nat.le_refl _) (Nat.le_refl _) (fun _ _ w => w)),
      (fun z hc I => by
        subst z
        obtain ⟨h', a, b⟩ := ps_0 ih e S hc hk hd hn I
        exact ⟨h', a, b.wk (fun z _ _ _ _ _ p => ⟨⟨er z, p.1⟩, p.2⟩) (Nat.le_refl _) (Nat.le_refl _) (fun _ _ w => w)⟩),
      (fun z hc I T p hT hp hv => by
        subst z
        obtain ⟨h', x', a, b⟩ := ps_12 ih h4 e S hc hk hd hn I hT hp hv
        exact ⟨h', x', a, b.wk (fun z _ _ _ _ _ p => ⟨⟨er z, p.1⟩, p.2⟩) (Nat.le_refl _) (Nat.le_refl _) (fun _ _ w => w)⟩),
      (fun z z2 hc I => by
        subst z; subst z2
        obtain ⟨h', a, b⟩ := ps_13 ih e S hc hk hn I
        exact ⟨h', a, b.wk (fun z _ _ _ _ _ p => ⟨⟨er z, p.1⟩, p.2⟩) (Nat.le_refl _) (Nat.le_refl _) (fun _ _ w => w)⟩)⟩
end STV
