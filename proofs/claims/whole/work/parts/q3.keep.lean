/-! ===== THE LAW: the component's calls keep the reference's words ===== -/
/-- the reference's words are what they were -/
def RKp (h h' : AH) : Prop := (∀ k, 3584 ≤ k ∧ k < 3840 → gI h' k 189 = gI h k 189 ∧ gL h' k 189 = gL h k 189) ∧ ∀ x, 190 ≤ x ∧ x < 295 → gA h' x = gA h x ∧ gB h' x = gB h x
section RKP
variable {h h' h'' : AH}
theorem RKp.I (f : RKp h h') (k : Nat) (q : 3584 ≤ k ∧ k < 3840) : gI h' k 189 = gI h k 189 := (f.1 k q).1
theorem RKp.A (f : RKp h h') (x : Nat) (q : 190 ≤ x ∧ x < 295) : gA h' x = gA h x := (f.2 x q).1
theorem RKp.B (f : RKp h h') (x : Nat) (q : 190 ≤ x ∧ x < 295) : gB h' x = gB h x := (f.2 x q).2
theorem RKp.rf : RKp h h := ⟨fun _ _ => ⟨Eq.refl _, Eq.refl _⟩, fun _ _ => ⟨Eq.refl _, Eq.refl _⟩⟩
theorem RKp.tr (a : RKp h h') (b : RKp h' h'') : RKp h h'' := ⟨fun k q => ⟨(b.1 k q).1.trans (a.1 k q).1, (b.1 k q).2.trans (a.1 k q).2⟩, fun x q => ⟨(b.2 x q).1.trans (a.2 x q).1, (b.2 x q).2.trans (a.2 x q).2⟩⟩
theorem GF.rk {mI mR : Nat → Nat → Prop} {mO mA : Nat → Prop} (a : GF mI mR mO mA h h') (g : 296 ≤ gN h) (h1 : ∀ k, 3584 ≤ k ∧ k < 3840 → ¬ mI k 189) (h2 : ∀ x, 190 ≤ x ∧ x < 295 → ¬ mA x) : RKp h h' := by
  obtain ⟨a1, a2, a3, a4, a5, a6, a7⟩ := a
  exact ⟨fun k q => ⟨a3 k 189 (by omega) (h1 k q), a4 k 189 (by omega) (h1 k q)⟩, fun x q => a6 x (by omega) (h2 x q)⟩
theorem Fr.rk {K X : List Nat} (f : Fr K X h h') (h1 : ∀ k, k ∈ K → k < 3584 ∨ 3840 ≤ k) (h2 : ∀ x, x ∈ X → x < 190 ∨ 295 ≤ x) : RKp h h' := by
  obtain ⟨a1, a2, a3, a4, a5, a6, a7, a8, a9⟩ := f
  exact ⟨fun k q => ⟨by rw [a6 k fun w => by have := h1 k w; omega], by rw [a7 k fun w => by have := h1 k w; omega]⟩, fun x q => ⟨by rw [a8 x fun w => by have := h2 x w; omega], by rw [a9 x fun w => by have := h2 x w; omega]⟩⟩
variable {s : St} {bk : Bk} {t : Tp}
theorem RS.rk (R : RS h s) (f : RKp h h') : RS h' s := by
  obtain ⟨r1, r2, r3, r4⟩ := R
  unfold RS RS1 RS2 RS3 RS4
  unfold RS1 at r1
  unfold RS2 at r2
  unfold RS3 at r3
  unfold RS4 at r4
  rw [f.I 3654 (by decide), f.I 3677 (by decide), f.I 3678 (by decide), f.I 3667 (by decide), f.I 3676 (by decide), f.I 3688 (by decide), f.A 242 (by decide), f.A 243 (by decide), f.A 244 (by decide), f.A 245 (by decide), f.A 246 (by decide), f.A 247 (by decide), f.A 248 (by decide), f.A 249 (by decide), f.A 250 (by decide), f.A 251 (by decide), f.A 252 (by decide), f.A 253 (by decide), f.A 254 (by decide), f.A 255 (by decide), f.A 256 (by decide), f.A 257 (by decide), f.A 258 (by decide), f.A 259 (by decide), f.A 260 (by decide), f.A 261 (by decide), f.A 265 (by decide), f.A 266 (by decide), f.A 267 (by decide), f.A 268 (by decide)]
  exact ⟨r1, r2, r3, r4⟩
theorem RY.rk (Y : RY h bk) (f : RKp h h') : RY h' bk := by
  unfold RY RV at Y ⊢
  rw [f.I 3679 (by decide), f.I 3680 (by decide), f.A 262 (by decide), f.A 263 (by decide)]; exact Y
theorem RB.rk {w : Nat} (R : RB h w bk) (f : RKp h h') : RB h' w bk := by
  unfold RB at R ⊢
  rw [f.A 197 (by decide), f.A 199 (by decide), f.A 200 (by decide), f.A 201 (by decide), f.A 202 (by decide), f.A 205 (by decide), f.A 207 (by decide), f.A 208 (by decide), f.A 209 (by decide), f.A 210 (by decide), f.A 211 (by decide), f.A 212 (by decide), f.A 213 (by decide), f.A 214 (by decide), f.A 215 (by decide), f.A 216 (by decide), f.A 218 (by decide), f.A 219 (by decide), f.A 220 (by decide), f.A 221 (by decide), f.A 222 (by decide), f.A 223 (by decide), f.A 224 (by decide), f.A 225 (by decide), f.A 226 (by decide), f.A 227 (by decide), f.A 228 (by decide), f.A 229 (by decide), f.A 230 (by decide), f.A 231 (by decide), f.A 232 (by decide), f.B 198 (by decide), f.B 203 (by decide), f.B 204 (by decide), f.B 206 (by decide), f.B 217 (by decide)]
  exact R
theorem RT.rk (T : RT h t) (f : RKp h h') : RT h' t := by
  unfold RT at T ⊢
  rw [f.I 3590 (by decide), f.A 193 (by decide)]; exact T
theorem KR.rk (K : KR h) (f : RKp h h') : KR h' := fun w hw => by rw [f.B 190 (by decide)]; exact K w hw
theorem KP.rk (K : KP h) (f : RKp h h') : KP h' := by
  unfold KP at K ⊢
  rw [f.A 191 (by decide), f.A 192 (by decide)]; exact K
theorem MRt.rk {M : Nat → Nat → Nat} (K : MRt h M) (f : RKp h h') : MRt h' M := by
  unfold MRt at K ⊢
  rw [f.A 239 (by decide)]; exact K
theorem RF.rk {a b c : Int32} (R : RF h a b c) (f : RKp h h') : RF h' a b c := by
  unfold RF at R ⊢
  rw [f.I 3644 (by decide), f.I 3645 (by decide), f.I 3653 (by decide)]; exact R
theorem RPg.rk {sd : Nat} (R : RPg h t sd) (f : RKp h h') : RPg h' t sd := by
  unfold RPg AT T3 at R ⊢
  rw [f.A 274 (by decide), f.A 275 (by decide), f.A 276 (by decide), f.A 277 (by decide), f.A 278 (by decide), f.A 279 (by decide), f.A 280 (by decide), f.A 281 (by decide)]; exact R
theorem MRw.rk {hc : AH} {ni a2 p p2 mk rf : Nat} {ty : Nat → Bool} (m : MRw hc h ni ty a2 p p2 mk rf) (f : RKp h h') : MRw hc h' ni ty a2 p p2 mk rf := by
  unfold MRw TRr at m ⊢
  rw [f.B 282 (by decide), f.B 288 (by decide), f.A 283 (by decide), f.A 284 (by decide), f.A 285 (by decide), f.A 286 (by decide), f.A 287 (by decide), f.I 3718 (by decide), f.I 3719 (by decide), f.I 3720 (by decide), f.I 3721 (by decide)]
  exact m
/-- the component's machine is what it was -/
theorem MRw.gf {hc : AH} {ni a2 p p2 mk rf : Nat} {ty : Nat → Bool} {mI mR : Nat → Nat → Prop} {mO mA : Nat → Prop} (m : MRw h hc ni ty a2 p p2 mk rf) (a : GF mI mR mO mA h h') (g : 296 ≤ gN h) (h1 : ∀ k, k = 1549 ∨ 1553 ≤ k ∧ k ≤ 1555 → ¬ mI k 175) (h2 : ∀ x, 176 ≤ x ∧ x ≤ 182 → ¬ mA x) : MRw h' hc ni ty a2 p p2 mk rf := by
  obtain ⟨a1, aC, a3, a4, a5, a6, a7⟩ := a
  have aA : ∀ x, 176 ≤ x ∧ x ≤ 182 → gA h' x = gA h x := fun x q => (a6 x (by omega) (h2 x q)).1
  have aB : ∀ x, 176 ≤ x ∧ x ≤ 182 → gB h' x = gB h x := fun x q => (a6 x (by omega) (h2 x q)).2
  have aI : ∀ k, k = 1549 ∨ 1553 ≤ k ∧ k ≤ 1555 → gI h' k 175 = gI h k 175 := fun k q => a3 k 175 (by omega) (h1 k q)
  unfold MRw TRr at m ⊢
  rw [aB 176 (by decide), aA 177 (by decide), aB 182 (by decide), aA 178 (by decide), aA 179 (by decide), aA 180 (by decide), aA 181 (by decide), aI 1549 (by decide), aI 1553 (by decide), aI 1554 (by decide), aI 1555 (by decide)]
  exact m
/-- more items -/
theorem MRw.up {hc : AH} {ni nj a2 p p2 mk rf : Nat} {ty : Nat → Bool} (m : MRw hc h ni ty a2 p p2 mk rf) (le : ni ≤ nj) : MRw hc h nj ty a2 p p2 mk rf := by
  have up : ∀ w, itv ni w → itv nj w := fun w q => q.elim Or.inl fun ⟨i, hi, e⟩ => Or.inr ⟨i, by omega, e⟩
  obtain ⟨m1, m2, m3, m4, m5⟩ := m
  exact ⟨m1, fun i hi => ⟨(m2 i hi).1, up _ (m2 i hi).2⟩, m3, fun i hi e => by obtain ⟨w, w1, w2⟩ := m4 i hi e; exact ⟨w, up _ w1, w2⟩, m5⟩
/-- a new book -/
theorem MRe.new {g g' : AH} {ni nj : Nat} {mI mR : Nat → Nat → Prop} {mO mA : Nat → Prop} {K X : List Nat} (m : MRe h g ni) (a : GF mI mR mO mA h h') (gn : 296 ≤ gN h) (h1 : ∀ k, 1553 ≤ k ∧ k ≤ 1555 → ¬ mI k 175) (h2 : ¬ mA 182) (cz : CZ h') (f : Fr K X g g') (hK : ∀ k, k ∈ [3718, 3719, 3721] → k ∉ K) (hX : 288 ∉ X) (rz : RZ0 g') : MRe h' g' nj := by
  obtain ⟨ty, a2, p, p2, mk, rf, m1, m2, m3, m4, ⟨n1, n2, n3, n4, n5, n6, n7, n8, n9, n10⟩, -⟩ := m
  obtain ⟨b1, bC, b3, b4, b5, b6, b7⟩ := a
  obtain ⟨c1, c2, c3, c4, c5, c6, c7, -⟩ := cz
  obtain ⟨⟨d1, d2, d3⟩, -, -, -, -, -, -, -, d4, -⟩ := rz
  refine ⟨ty, a2, 0, p2, mk, rf, fun i hi => by rw [c1 i hi, d1 i hi], fun i hi => ⟨by rw [c2 i hi, d2 i hi], Or.inl (c2 i hi)⟩, fun i hi => ?_, fun i hi => absurd hi (Nat.not_lt_zero _), ⟨Nat.zero_le _, ?_, ?_, n4, ?_, ?_, n7, ?_, ?_, n10⟩, ⟨0, Nat.zero_le _, c7, d4⟩, fun i hi => Or.inl ⟨c3 i hi, d3 i hi⟩, fun i j hi hj e => absurd (c3 i hi) e⟩
  · rw [(b6 182 (by omega) h2).2, f.B hX]; exact m3 i hi
  · rw [b3 1553 175 (by omega) (h1 _ (by decide))]; exact n2
  · rw [f.I (hK 3719 (by decide))]; exact n3
  · rw [b3 1554 175 (by omega) (h1 _ (by decide))]; exact n5
  · rw [f.I (hK 3718 (by decide))]; exact n6
  · rw [b3 1555 175 (by omega) (h1 _ (by decide))]; exact n8
  · rw [f.I (hK 3721 (by decide))]; exact n9
end RKP
