/-! ===== THE BOOK: what the reference reads ===== -/
def XB : List Nat := (List.range 36).map (· + 197)
theorem xb {x : Nat} : x ∈ XB ↔ 197 ≤ x ∧ x ≤ 232 := by
  unfold XB
  rw [List.mem_map]
  constructor
  · rintro ⟨i, h1, h2⟩; have := List.mem_range.mp h1; omega
  · intro q; exact ⟨x - 197, List.mem_range.mpr (by omega), by omega⟩
/-- half of a row of the books -/
def hzA (x : Nat) : Nat := if x = 197 ∨ x = 202 ∨ x = 205 ∨ x = 216 ∨ x = 225 then 1 else if x ≤ 201 then 16 else if x ≤ 204 then 20 else if x = 206 then 180 else if x ≤ 215 then 60 else if x ≤ 220 then 8 else if x ≤ 224 then 64 else 40
/-- only the book w is touched, and where the reference is -/
def RGb (w : Nat) (h h' : AH) : Prop := Fr [3595, 3596] XB h h' ∧ ∀ x i, 197 ≤ x → x ≤ 232 → (i < hzA x * w ∨ hzA x * w + hzA x ≤ i) → gA h' x i = gA h x i ∧ gB h' x i = gB h x i
theorem Fr.gA' {K : List Nat} {h h' : AH} (f : Fr K [] h h') : gA h' = gA h := funext fun x => f.A List.not_mem_nil
theorem Fr.gB' {K : List Nat} {h h' : AH} (f : Fr K [] h h') : gB h' = gB h := funext fun x => f.B List.not_mem_nil
section RGS
variable {w : Nat} {h h' h'' : AH}
theorem RGb.rfl : RGb w h h := ⟨Fr.rfl, fun _ _ _ _ _ => ⟨Eq.refl _, Eq.refl _⟩⟩
theorem RGb.trans (a : RGb w h h') (b : RGb w h' h'') : RGb w h h'' := ⟨a.1.trans b.1, fun x i h1 h2 h3 => ⟨(b.2 x i h1 h2 h3).1.trans (a.2 x i h1 h2 h3).1, (b.2 x i h1 h2 h3).2.trans (a.2 x i h1 h2 h3).2⟩⟩
theorem RGb.op (a : RGb w h h') (f : Fr [3595, 3596] [] h' h'') : RGb w h h'' := a.trans ⟨f.wk (fun _ q => q) (fun _ q => absurd q List.not_mem_nil), fun x i _ _ _ => by rw [f.gA', f.gB']; exact ⟨Eq.refl _, Eq.refl _⟩⟩
theorem RGb.sA (a : RGb w h h') {x i : Nat} {v : Int32} (hx : 197 ≤ x ∧ x ≤ 232) (hi : hzA x * w ≤ i ∧ i < hzA x * w + hzA x) : RGb w h (sA h' x i v) := a.trans ⟨Fr.rfl.sA (xb.mpr hx), fun y j _ _ h3 => ⟨by
  by_cases e : y = x
  · subst e; rw [gA_s]; exact up1_x (by omega)
  · rw [gA_k e], Eq.refl _⟩⟩
theorem RGb.sB (a : RGb w h h') {x i : Nat} {v : Int64} (hx : 197 ≤ x ∧ x ≤ 232) (hi : hzA x * w ≤ i ∧ i < hzA x * w + hzA x) : RGb w h (sB h' x i v) := a.trans ⟨Fr.rfl.sB (xb.mpr hx), fun y j _ _ h3 => ⟨Eq.refl _, by
  by_cases e : y = x
  · subst e; rw [gB_s]; exact up1_x (by omega)
  · rw [gB_k e]⟩⟩
/-- the other book is as it was -/
theorem RB.rg {w0 : Nat} {bk : Bk} (R : RB h w0 bk) (g : RGb w h h') (W : WB bk) (hw : w0 ≤ 1 ∧ w ≤ 1 ∧ w0 ≠ w) : RB h' w0 bk := by
  obtain ⟨b1, b2, b3, b4, b5, b6⟩ := R
  have w1 := W.1
  have w4 := W.2.2.2.1
  have w5 := W.2.2.2.2.1
  have kA : ∀ x z, 197 ≤ x → x ≤ 232 → hzA x = z → ∀ i, i < z → gA h' x (z * w0 + i) = gA h x (z * w0 + i) ∧ gB h' x (z * w0 + i) = gB h x (z * w0 + i) := fun x z h1 h2 h3 i hi => g.2 x _ h1 h2 (by
    rw [h3]
    rcases (by omega : w0 = 0 ∧ w = 1 ∨ w0 = 1 ∧ w = 0) with ⟨rfl, rfl⟩ | ⟨rfl, rfl⟩
    · left; omega
    · right; omega)
  have k1 : ∀ x, 197 ≤ x → x ≤ 232 → hzA x = 1 → gA h' x w0 = gA h x w0 := fun x h1 h2 h3 => by
    have := (kA x 1 h1 h2 h3 0 (by decide)).1
    rwa [Nat.one_mul, Nat.add_zero] at this
  refine ⟨?_, fun i hi => ?_, fun i hi => ?_, fun p hp => ?_, fun s hS => ?_, fun c hc => ?_⟩
  · rw [k1 197 (by decide) (by decide) (by decide), k1 205 (by decide) (by decide) (by decide), k1 216 (by decide) (by decide) (by decide), k1 225 (by decide) (by decide) (by decide), k1 202 (by decide) (by decide) (by decide)]; exact b1
  · rw [(kA 198 16 (by decide) (by decide) (by decide) i (by omega)).2, (kA 199 16 (by decide) (by decide) (by decide) i (by omega)).1, (kA 200 16 (by decide) (by decide) (by decide) i (by omega)).1, (kA 201 16 (by decide) (by decide) (by decide) i (by omega)).1]; exact b2 i hi
  · rw [(kA 203 20 (by decide) (by decide) (by decide) i (by omega)).2, (kA 204 20 (by decide) (by decide) (by decide) i (by omega)).2]; exact b3 i hi
  · have v8 := (w4 p hp).1
    have kk : ∀ x, 207 ≤ x → x ≤ 215 → gA h' x (60 * w0 + p) = gA h x (60 * w0 + p) := fun x h1 h2 => (kA x 60 (by omega) (by omega) (by unfold hzA; rw [if_neg (by omega), if_neg (by omega), if_neg (by omega), if_neg (by omega), if_pos (by omega)]) p (by omega)).1
    obtain ⟨c1, c2⟩ := b4 p hp
    refine ⟨fun k hk => ?_, ?_⟩
    · have := (kA 206 180 (by decide) (by decide) (by decide) (3 * p + k) (by omega)).2
      rw [show 180 * w0 + (3 * p + k) = 3 * (60 * w0 + p) + k from by omega] at this
      rw [this]; exact c1 k hk
    · rw [kk 207 (by decide) (by decide), kk 208 (by decide) (by decide), kk 209 (by decide) (by decide), kk 210 (by decide) (by decide), kk 211 (by decide) (by decide), kk 212 (by decide) (by decide), kk 213 (by decide) (by decide), kk 214 (by decide) (by decide), kk 215 (by decide) (by decide)]; exact c2
  · have v20 := (w5 s hS).2.2.2.1
    obtain ⟨c1, c2, c3, c4, c5⟩ := b5 s hS
    refine ⟨?_, ?_, ?_, ?_, fun k hk => ?_⟩
    · rw [(kA 217 8 (by decide) (by decide) (by decide) s (by omega)).2]; exact c1
    · rw [(kA 218 8 (by decide) (by decide) (by decide) s (by omega)).1]; exact c2
    · rw [(kA 219 8 (by decide) (by decide) (by decide) s (by omega)).1]; exact c3
    · rw [(kA 220 8 (by decide) (by decide) (by decide) s (by omega)).1]; exact c4
    · have kk : ∀ x, 221 ≤ x → x ≤ 224 → gA h' x (8 * (8 * w0 + s) + k) = gA h x (8 * (8 * w0 + s) + k) := fun x h1 h2 => by
        have := (kA x 64 (by omega) (by omega) (by unfold hzA; rw [if_neg (by omega), if_neg (by omega), if_neg (by omega), if_neg (by omega), if_neg (by omega), if_neg (by omega), if_pos (by omega)]) (8 * s + k) (by omega)).1
        rwa [show 64 * w0 + (8 * s + k) = 8 * (8 * w0 + s) + k from by omega] at this
      rw [kk 221 (by decide) (by decide), kk 222 (by decide) (by decide), kk 223 (by decide) (by decide), kk 224 (by decide) (by decide)]; exact c5 k hk
  · have kk : ∀ x, 226 ≤ x → x ≤ 232 → gA h' x (40 * w0 + c) = gA h x (40 * w0 + c) := fun x h1 h2 => (kA x 40 (by omega) (by omega) (by unfold hzA; rw [if_neg (by omega), if_neg (by omega), if_neg (by omega), if_neg (by omega), if_neg (by omega), if_neg (by omega), if_neg (by omega)]) c (by omega)).1
    rw [kk 226 (by decide) (by decide), kk 227 (by decide) (by decide), kk 228 (by decide) (by decide), kk 229 (by decide) (by decide), kk 230 (by decide) (by decide), kk 231 (by decide) (by decide), kk 232 (by decide) (by decide)]; exact b6 c hc
end RGS
/-- while the reference reads -/
def RIb (h0 : AH) (t : Tp) (M w k f : Nat) (h : AH) : Prop := Sh h ∧ KR h ∧ RQ h t M k f ∧ gI h 3598 189 = nI w ∧ RGb w h0 h
section RIS
variable {d : Nat} {h0 h : AH} {t : Tp} {M w k f : Nat}
theorem RIb.op {h' : AH} {k' f' : Nat} (I : RIb h0 t M w k f h) (F : Fr [3595, 3596] [] h h') (R : RQ h' t M k' f') : RIb h0 t M w k' f' h' :=
  ⟨F.sh I.1, I.2.1.fr F (by decide), R, by rw [F.I (by decide)]; exact I.2.2.2.1, I.2.2.2.2.op F⟩
theorem RIb.sA (I : RIb h0 t M w k f h) {x i : Nat} {v : Int32} (hx : 197 ≤ x ∧ x ≤ 232) (hi : hzA x * w ≤ i ∧ i < hzA x * w + hzA x) : RIb h0 t M w k f (sA h x i v) := by
  have F : Fr [3595, 3596] XB h (Jvm.Pilot.CPostRoomLaw_law_r9321_2ac549.sA h x i v) := Fr.rfl.sA (xb.mpr hx)
  exact ⟨F.sh I.1, I.2.1.fr F (fun q => by have := xb.mp q; omega), ⟨I.2.2.1.1.fr F (fun q => by have := xb.mp q; omega) (fun q => by have := xb.mp q; omega) (fun q => by have := xb.mp q; omega), I.2.2.1.2⟩, I.2.2.2.1, I.2.2.2.2.sA hx hi⟩
theorem RIb.sB (I : RIb h0 t M w k f h) {x i : Nat} {v : Int64} (hx : 197 ≤ x ∧ x ≤ 232) (hi : hzA x * w ≤ i ∧ i < hzA x * w + hzA x) : RIb h0 t M w k f (sB h x i v) := by
  have F : Fr [3595, 3596] XB h (Jvm.Pilot.CPostRoomLaw_law_r9321_2ac549.sB h x i v) := Fr.rfl.sB (xb.mpr hx)
  exact ⟨F.sh I.1, I.2.1.fr F (fun q => by have := xb.mp q; omega), ⟨I.2.2.1.1.fr F (fun q => by have := xb.mp q; omega) (fun q => by have := xb.mp q; omega) (fun q => by have := xb.mp q; omega), I.2.2.1.2⟩, I.2.2.2.1, I.2.2.2.2.sB hx hi⟩
theorem i_tN (I : RIb h0 t M w k f h) {lo hi : Nat} {x1 : Int32} (e1 : f = 0 → x1 = nI lo ∧ lo < 100000) (hh : hi < 100000) : ∃ h' v, E (d + 2) 50 [.ref 189, .int x1, .int (nI hi)] h = some (some (.int v), h') ∧ RIb h0 t M w (k + 1) (st f (fN t k lo hi)) h' ∧ (gA h' = gA h ∧ gB h' = gB h) ∧ (st f (fN t k lo hi) = 0 → v = nI (tV t k)) := by
  obtain ⟨h', v, a, b, c, e⟩ := r_tN (d := d) I.1 I.2.2.1 e1 rfl hh
  exact ⟨h', v, a, I.op b c, ⟨b.gA', b.gB'⟩, e⟩
theorem i_tW (I : RIb h0 t M w k f h) {q : Nat} (hq : q < 74) : ∃ h', E (d + 2) 53 [.ref 189, .int (nI q)] h = some (none, h') ∧ RIb h0 t M w (k + 1) (st f (fW t k (kw q))) h' ∧ (gA h' = gA h ∧ gB h' = gB h) := by
  obtain ⟨h', a, b, c⟩ := r_tW (d := d) I.1 I.2.1 I.2.2.1 hq
  exact ⟨h', a, I.op b c, b.gA', b.gB'⟩
theorem i_hW (I : RIb h0 t M w k f h) {q : Nat} (hq : q < 74) : ∃ h', E (d + 2) 55 [.ref 189, .int (nI q)] h = some (some (.int (nI (if f = 0 ∧ isW t k (kw q) then 1 else 0))), h') ∧ RIb h0 t M w (if isW t k (kw q) then k + 1 else k) f h' ∧ (gA h' = gA h ∧ gB h' = gB h) := by
  obtain ⟨h', a, b, c⟩ := r_hW (d := d) I.1 I.2.1 I.2.2.1 hq
  exact ⟨h', a, I.op b c, b.gA', b.gB'⟩
theorem i_1of (I : RIb h0 t M w k f h) {q n : Nat} {x2 : Int32} (hn : 0 < n) (hb : q + n ≤ 74) (y2 : x2 = nI (q + n - 1)) : ∃ h' v, E (d + 3) 56 [.ref 189, .int (nI q), .int x2] h = some (some (.int v), h') ∧ RIb h0 t M w (k + 1) (st f (f1 t k q n)) h' ∧ (gA h' = gA h ∧ gB h' = gB h) ∧ (st f (f1 t k q n) = 0 → v = oI (ow t k q n 0)) := by
  obtain ⟨h', v, a, b, c, e⟩ := r_1of (d := d) I.1 I.2.1 I.2.2.1 hn hb rfl y2
  exact ⟨h', v, a, I.op b c, ⟨b.gA', b.gB'⟩, e⟩
theorem i_tM (I : RIb h0 t M w k f h) {x fr m : Nat} {nm : Nat → Nat} {Kx : Nat} (hx : ∀ g, Sh g → gC g x = 61 ∧ gK g x = Kx) (hK : fr + m ≤ Kx ∧ Kx ≤ 1000) (nb : ∀ i, i < m → nm i < 2 ^ 63) (gn : ∀ i, i < m → gB h x (fr + i) = lN (nm i)) : ∃ h' v, E (d + 2) 49 [.ref 189, .ref x, .int (nI fr), .int (nI m)] h = some (some (.long v), h') ∧ RIb h0 t M w (k + 1) (st f (fM t k nm m)) h' ∧ (gA h' = gA h ∧ gB h' = gB h) ∧ (st f (fM t k nm m) = 0 → v = lN (tV t k)) := by
  obtain ⟨h', v, a, b, c, e⟩ := r_tM (d := d) I.1 I.2.2.1 hx rfl rfl hK nb gn
  exact ⟨h', v, a, I.op b c, ⟨b.gA', b.gB'⟩, e⟩
theorem i_tO (I : RIb h0 t M w k f h) {m : Nat} {nm : Nat → Nat} (hw : w ≤ 1) (hm : m ≤ 16) (ec : gA h 197 w = nI m) (nb : ∀ i, i < m → nm i < 2 ^ 63) (gn : ∀ i, i < m → gB h 198 (16 * w + i) = lN (nm i)) : ∃ h' v, E (d + 2) 54 [.ref 189] h = some (some (.int v), h') ∧ RIb h0 t M w (k + 1) (st f (fO t k nm m)) h' ∧ (gA h' = gA h ∧ gB h' = gB h) ∧ (st f (fO t k nm m) = 0 → v = oI (ofL nm (tV t k) m)) := by
  obtain ⟨h', v, a, b, c, e⟩ := r_tO (d := d) I.1 I.2.2.1 hw hm I.2.2.2.1 ec nb gn
  exact ⟨h', v, a, I.op b c, ⟨b.gA', b.gB'⟩, e⟩
theorem i_beg (I : RIb h0 t M w k 0 h) (q0 : tK t k ≠ 0) {P : Prop} [Decidable P] : ∃ h', E (d + 2) 47 [.ref 189, .int (nI (if P then 1 else 0))] h = some (none, h') ∧ RIb h0 t M w (k + 1) (if P then fX t 5 k else 0) h' ∧ (gA h' = gA h ∧ gB h' = gB h) := by
  obtain ⟨h', a, b, c⟩ := r_beg (d := d) I.1 I.2.2.1 q0 (P := P)
  exact ⟨h', a, I.op b c, b.gA', b.gB'⟩
end RIS
theorem ff_1 {a : Nat} : ff [a] = a := by show (if a = 0 then 0 else a) = a; split <;> omega
theorem ff_0 {l : List Nat} : ff (0 :: l) = ff l := rfl
theorem ff_n {a : Nat} {l : List Nat} (h : a ≠ 0) : ff (a :: l) = a := if_neg h
theorem fX_n {t : Tp} {c k : Nat} (h : 0 < c) : fX t c k ≠ 0 := by unfold fX; omega
theorem fN_0 {t : Tp} {k lo hi : Nat} (h : fN t k lo hi = 0) : tK t k = 3 ∧ lo ≤ tV t k ∧ tV t k ≤ hi := by
  unfold fN at h
  by_cases q : tK t k ≠ 3
  · rw [if_pos q] at h; exact absurd h (fX_n (by decide))
  · rw [if_neg q] at h
    by_cases q1 : tV t k < lo ∨ hi < tV t k
    · rw [if_pos q1] at h; exact absurd h (fX_n (by decide))
    · exact ⟨Decidable.not_not.mp q, by omega, by omega⟩
theorem fM_0 {t : Tp} {k m : Nat} {nm : Nat → Nat} (h : fM t k nm m = 0) : tK t k = 2 ∧ ∀ i, i < m → nm i ≠ tV t k := by
  unfold fM at h
  by_cases q : tK t k ≠ 2
  · rw [if_pos q] at h; exact absurd h (fX_n (by decide))
  · rw [if_neg q] at h
    by_cases q1 : (List.range m).any (fun i => decide (nm i = tV t k)) = true
    · rw [if_pos q1] at h; exact absurd h (fX_n (by decide))
    · exact ⟨Decidable.not_not.mp q, fun i hi w => q1 (any_b.mpr ⟨i, hi, w⟩)⟩
theorem fO_0 {t : Tp} {k m : Nat} {nm : Nat → Nat} (h : fO t k nm m = 0) : tK t k = 2 ∧ ∃ i, ofL nm (tV t k) m = some i ∧ i < m ∧ nm i = tV t k := by
  unfold fO at h
  by_cases q : tK t k ≠ 2
  · rw [if_pos q] at h; exact absurd h (fX_n (by decide))
  · rw [if_neg q] at h
    by_cases q1 : ofL nm (tV t k) m = none
    · rw [if_pos q1] at h; exact absurd h (fX_n (by decide))
    · obtain ⟨i, e⟩ := Option.ne_none_iff_exists'.mp q1
      exact ⟨Decidable.not_not.mp q, i, e, ofL_b m e⟩
theorem f1_0 {t : Tp} {k w n : Nat} (h : f1 t k w n = 0) : ∃ i, ow t k w n 0 = some i ∧ i < n ∧ isW t k (kw (w + i)) := by
  unfold f1 at h
  by_cases q : ow t k w n 0 = none
  · rw [if_pos q] at h; exact absurd h (fX_n (by decide))
  · obtain ⟨i, e⟩ := Option.ne_none_iff_exists'.mp q
    have := ow_b n 0 e
    exact ⟨i, e, by omega, this.2.2⟩
section ROF
variable {d : Nat} {h0 h : AH} {t : Tp} {M w k f : Nat} {bk : Bk}
theorem Sh.aN {h : AH} (hs : Sh h) (x : Nat) (hx : x < 296 ∧ x ≠ 63 ∧ x ≠ 64) : gC h x = cS x ∧ gK h x = kS x := by
  constructor
  · rw [← congrFun hs.c x]; unfold cX; rw [inS_lt.mpr hx.1]; rfl
  · rw [← congrFun hs.k x]; unfold kX
    rw [inS_lt.mpr hx.1, show (Nat.beq x 63 || Nat.beq x 64) = false from by
      have a : Nat.beq x 63 = false := by cases hb : Nat.beq x 63 with | false => rfl | true => exact absurd (Nat.eq_of_beq_eq_true hb) hx.2.1
      have b : Nat.beq x 64 = false := by cases hb : Nat.beq x 64 with | false => rfl | true => exact absurd (Nat.eq_of_beq_eq_true hb) hx.2.2
      rw [a, b]; rfl]
    rfl
theorem cwN {h : AH} (hs : Sh h) (x c : Nat) {X : Option Ot} (hx : 100 ≤ x ∧ x < 296) (e : cS x = c) : cw (gC h x) c x X = X := cw_ok ((hs.aN x (by omega)).1.trans e) hx.1
theorem gkN {h : AH} (hs : Sh h) (x n : Nat) (hx : 100 ≤ x ∧ x < 296) (e : kS x = n) : gK h x = n := (hs.aN x (by omega)).2.trans e
theorem r_codes {m : Nat} {cd : Nat → Nat} {x2 : Int32} (hm : m ≤ 16) (hw : w ≤ 1) (nb : ∀ i, i < m → cd i < 2 ^ 31) : ∀ (n i : Nat) (f : Nat) {h : AH}, RIb h0 t M w (k + 1) f h → n + i = m → (f = 0 → x2 = nI (tV t k) ∧ tV t k < 2 ^ 31) → (∀ i, i < m → gA h 199 (16 * w + i) = nI (cd i)) → ∃ h', Q (d + 1) 46 74 [some (.ref 189), some (.int (nI m)), some (.int x2), some (.int (nI i))] [] h = Q (d + 1) 46 74 [some (.ref 189), some (.int (nI m)), some (.int x2), some (.int (nI m))] [] h' ∧ RIb h0 t M w (k + 1) (st f (dpF t k cd m i)) h' ∧ (gA h' = gA h ∧ gB h' = gB h) := by
  intro n
  induction n with
  | zero =>
    intro i f h I e hv gn
    obtain rfl : i = m := by omega
    refine ⟨h, rfl, ?_, rfl, rfl⟩
    rw [dp_f (by rintro ⟨j, a, b, c⟩; omega)]
    have : st f 0 = f := by unfold st; split <;> simp_all
    rw [this]; exact I
  | succ n ih =>
    intro i f h I e hv gn
    have hs := I.1
    by_cases q : f = 0
    · obtain ⟨v1, v2⟩ := hv q
      obtain ⟨c1, c2, c3, c4⟩ := I.2.2.1.at q
      rw [t_46_74 hs, if_pos (nI_lt (by omega) (by omega)), I.2.2.1.2.1, if_pos (by rw [q]), I.2.2.2.1, pk_mul, nI_add, gd_nI (by omega) (by decide), ix_nI (by omega), gn i (by omega), v1]
      by_cases q1 : cd i = tV t k
      · have R := I.2.2.1
        have fr' : Fr [3595] [] h (sI h 3595 189 (nI k)) := Fr.rfl.sI (by decide)
        have R' : RQ (sI h 3595 189 (nI k)) t M k f := ⟨R.1.fr fr' (by decide) (by decide) (by decide), by rw [gI_k (by decide)]; exact R.2.1, R.2.2.1, k, gI_s, by omega, fun _ => rfl⟩
        obtain ⟨h1, a1, a2, a3⟩ := r_wrong (d := d) (fr'.sh hs) R' (c := 3) (by decide) (by decide)
        have F : Fr [3595, 3596] [] h h1 := (fr'.wk (by decide) (by decide)).trans (a2.wk (by decide) (by decide))
        have nz : st f (fX t 3 k) ≠ 0 := by unfold st; rw [if_pos q]; exact fX_n (by decide)
        have I1 : RIb h0 t M w (k + 1) (st f (fX t 3 k)) h1 := I.op F (a3.any nz _)
        obtain ⟨h2, b1, b2, b3, b4⟩ := ih (i + 1) _ I1 (by omega) (fun z => absurd z nz) (fun j hj => by rw [F.gA']; exact gn j hj)
        rw [if_pos (by rw [q1]), c1, pk_sub (by omega), Nat.add_sub_cancel, a1, cK_n, t_46_119 (F.sh hs), nI_add, ← v1, b1]
        refine ⟨h2, rfl, ?_, b3.trans F.gA', b4.trans F.gB'⟩
        rw [dp_t ⟨i, Nat.le_refl _, by omega, q1⟩]
        have e3 : ∀ c, st (st f (fX t 3 k)) c = st f (fX t 3 k) := fun c => if_neg nz
        rw [e3] at b2; exact b2
      · rw [if_neg fun z => q1 ((nI_eq (nb i (by omega)) v2).mp z), t_46_119 hs, nI_add, ← v1]
        obtain ⟨h2, b1, b2, b3⟩ := ih (i + 1) f I (by omega) hv gn
        refine ⟨h2, b1, ?_, b3⟩
        have e4 : dpF t k cd m i = dpF t k cd m (i + 1) := by
          by_cases w : ∃ j, i ≤ j ∧ j < m ∧ cd j = tV t k
          · rw [dp_t w, dp_t (by
              obtain ⟨j, x1, x2, x3⟩ := w
              by_cases w : j = i
              · rw [w] at x3; exact absurd x3 q1
              · exact ⟨j, by omega, x2, x3⟩)]
          · rw [dp_f w, dp_f fun ⟨j, x1, x2, x3⟩ => w ⟨j, by omega, x2, x3⟩]
        rw [e4]; exact b2
    · obtain ⟨h2, b1, b2, b3⟩ := ih (i + 1) f I (by omega) hv gn
      rw [t_46_74 hs, if_pos (nI_lt (by omega) (by omega)), I.2.2.1.2.1, if_neg fun w => q ((nI_eq (by have := I.2.2.1.2.2.1; omega) (by decide)).mp w), t_46_119 hs, nI_add]
      refine ⟨h2, b1, ?_, b3⟩
      have e1 : ∀ c, st f c = f := fun c => if_neg q
      rw [e1] at b2 ⊢; exact b2
def oFs (t : Tp) (k : Nat) (bk : Bk) : List Nat := [if bk 0 0 = 16 then fX t 5 k else 0, fM t (k + 1) (bk 1) (bk 0 0), fN t (k + 2) 1 999, dpF t (k + 2) (bk 2) (bk 0 0) 0, fN t (k + 3) 0 999, fN t (k + 4) 0 999]
def oBk (t : Tp) (k : Nat) (bk : Bk) : Bk := up2 (up2 (up2 (up2 (up2 bk 1 (bk 0 0) (tV t (k + 1))) 2 (bk 0 0) (tV t (k + 2))) 3 (bk 0 0) (tV t (k + 3))) 4 (bk 0 0) (tV t (k + 4))) 0 0 (bk 0 0 + 1)
theorem r_office (hw : w ≤ 1) (W : WB bk) (I : RIb h0 t M w k 0 h) (B : RB h w bk) (q0 : tK t k ≠ 0) : ∃ h', E (d + 4) 46 [.ref 189] h = some (none, h') ∧ RIb h0 t M w (k + 5) (ff (oFs t k bk)) h' ∧ (ff (oFs t k bk) = 0 → RB h' w (oBk t k bk)) := by
  have w1 := W.1
  have w2 := W.2.1
  obtain ⟨b1', b2', b3', b4', b5', b6'⟩ := id B
  have hs := I.1
  obtain ⟨h1, a1, I1, A1, B1⟩ := i_beg (d := d + 1) I q0 (P := bk 0 0 = 16)
  have beg : (if nI (bk 0 0) = nI 16 then cK (E (d + 3) 47 [.ref 189, .int (nI 1)] h) (Q (d + 3) 46 25 [some (.ref 189), some (.int (nI (bk 0 0))), none, none]) [] else cK (E (d + 3) 47 [.ref 189, .int (nI 0)] h) (Q (d + 3) 46 25 [some (.ref 189), some (.int (nI (bk 0 0))), none, none]) []) = Q (d + 3) 46 25 [some (.ref 189), some (.int (nI (bk 0 0))), none, none] [] h1 := by
    rw [ife (by omega) (by decide)]
    by_cases q : bk 0 0 = 16
    · rw [if_pos q]; rw [b1 q] at a1; rw [a1, cK_n]
    · rw [if_neg q]; rw [b0 q] at a1; rw [a1, cK_n]
  rw [t_46 hs, I.2.2.2.1, gd_nI (by omega) (by decide), ix_nI (by omega), b1'.1, beg]
  unfold oFs
  by_cases q : bk 0 0 = 16
  · rw [if_pos q] at I1 ⊢
    have nz : fX t 5 k ≠ 0 := fX_n (by decide)
    rw [ff_n nz, t_46_25 I1.1, I1.2.2.1.2.1, if_pos (nI_lt (by omega) (by have := I1.2.2.1.2.2.1; omega))]
    exact ⟨h1, rfl, I1.op Fr.rfl (I1.2.2.1.any nz _), fun z => absurd z nz⟩
  · rw [if_neg q] at I1 ⊢
    obtain ⟨h2, v2, a2, I2, ⟨A2, B2⟩, u2⟩ := i_tM (d := d + 1) I1 (x := 198) (fr := 16 * w) (m := bk 0 0) (nm := bk 1) (Kx := 32) (fun g hg => ⟨(hg.aN 198 (by decide)).1, (hg.aN 198 (by decide)).2⟩) (by omega) (fun i hi => by have := (w2 i hi).2.1; exact lt37 this (by decide)) (fun i hi => by rw [B1]; exact (b2' i hi).1)
    have S2 : RIb h0 t M w (k + 1 + 1) (st 0 (fM t (k + 1) (bk 1) (bk 0 0))) (sB h2 198 (16 * w + bk 0 0) v2) := I2.sB (by decide) (by unfold hzA; simp; omega)
    obtain ⟨h3, v3, a3, I3, ⟨A3, B3⟩, u3⟩ := i_tN (d := d + 1) S2 (lo := 1) (hi := 999) (x1 := nI 1) (fun _ => ⟨rfl, by decide⟩) (by decide)
    have g99 : ∀ i, i < bk 0 0 → gA h3 199 (16 * w + i) = nI (bk 2 i) := fun i hi => by rw [A3, gAB, A2, A1]; exact (b2' i hi).2.1
    obtain ⟨h4, a4, I4, A4, B4⟩ := r_codes (d := d + 2) (x2 := v3) (m := bk 0 0) (cd := bk 2) (by omega) hw (fun i hi => by have := (w2 i hi).2.2.2.1; omega) (bk 0 0) 0 _ I3 rfl (fun z => ⟨u3 z, by have := (fN_0 (st_0.mp z).2).2.2; exact Nat.lt_of_le_of_lt this (by decide)⟩) g99
    have S4 := I4.sA (x := 199) (i := 16 * w + bk 0 0) (v := v3) (by decide) (by unfold hzA; simp; omega)
    obtain ⟨h5, v5, a5, I5, ⟨A5, B5⟩, u5⟩ := i_tN (d := d + 1) S4 (lo := 0) (hi := 999) (x1 := nI 0) (fun _ => ⟨rfl, by decide⟩) (by decide)
    have S5 := I5.sA (x := 200) (i := 16 * w + bk 0 0) (v := v5) (by decide) (by unfold hzA; simp; omega)
    obtain ⟨h6, v6, a6, I6, ⟨A6, B6⟩, u6⟩ := i_tN (d := d + 1) S5 (lo := 0) (hi := 999) (x1 := nI 0) (fun _ => ⟨rfl, by decide⟩) (by decide)
    have S6 := (I6.sA (x := 201) (i := 16 * w + bk 0 0) (v := v6) (by decide) (by unfold hzA; simp; omega)).sA (x := 197) (i := w) (v := nI (bk 0 0 + 1)) (by decide) (by unfold hzA; simp)
    have c97 : gA (sA h6 201 (16 * w + bk 0 0) v6) 197 w = nI (bk 0 0) := by
      rw [gA_k (by decide), A6, gA_k (by decide), A5, gA_k (by decide), A4, A3, gAB, A2, A1]; exact b1'.1
    have fE : st (st (st (st (st 0 (fM t (k + 1) (bk 1) (bk 0 0))) (fN t (k + 2) 1 999)) (dpF t (k + 2) (bk 2) (bk 0 0) 0)) (fN t (k + 3) 0 999)) (fN t (k + 4) 0 999) = ff [0, fM t (k + 1) (bk 1) (bk 0 0), fN t (k + 2) 1 999, dpF t (k + 2) (bk 2) (bk 0 0) 0, fN t (k + 3) 0 999, fN t (k + 4) 0 999] := by
      rw [show (0 : Nat) = ff [0] from rfl, st_ff, st_ff, st_ff, st_ff, st_ff]; rfl
    rw [← fE]
    refine ⟨_, ?_, S6, fun z => ?_⟩
    · rw [t_46_25 I1.1, I1.2.2.1.2.1, if_neg (by decide), I1.2.2.2.1, pk_mul, nI_add, a2, cK_v, t_46_62 I2.1, cwN I2.1 198 61 (by decide) rfl, gkN I2.1 198 32 (by decide) rfl, gd_nI (by omega) (by decide), ix_nI (by omega), a3, cK_v, t_46_71 I3.1, a4, t_46_74 I4.1, if_neg (nI_nlt (Nat.le_refl _) (by omega)), I4.2.2.2.1, pk_mul, nI_add, gd_nI (by omega) (by decide), ix_nI (by omega), a5, cK_v, t_46_161 I5.1, cwN I5.1 200 60 (by decide) rfl, gkN I5.1 200 32 (by decide) rfl, gd_nI (by omega) (by decide), ix_nI (by omega), I5.2.2.2.1, pk_mul, nI_add, a6, cK_v, t_46_183 I6.1, cwN I6.1 201 60 (by decide) rfl, gkN I6.1 201 32 (by decide) rfl, gd_nI (by omega) (by decide), I6.2.2.2.1, gd_nI (by omega) (by decide), gd_nI (by omega) (by decide), ix_nI (by omega), ix_nI (by omega), c97, nI_add]
    · obtain ⟨z5, y5⟩ := st_0.mp z
      obtain ⟨z4, y4⟩ := st_0.mp z5
      obtain ⟨z3, y3⟩ := st_0.mp z4
      obtain ⟨z2, y2⟩ := st_0.mp z3
      have e2 := u2 z2
      have e3 := u3 z3
      have e5 := u5 z5
      have e6 := u6 z
      have g97 : gA (sA (sA h6 201 (16 * w + bk 0 0) v6) 197 w (nI (bk 0 0 + 1))) 197 = up1 (gA h 197) w (nI (bk 0 0 + 1)) := by
        rw [gA_s, gA_k (by decide), A6, gA_k (by decide), A5, gA_k (by decide), A4, A3, gAB, A2, A1]
      have g01 : gA (sA (sA h6 201 (16 * w + bk 0 0) v6) 197 w (nI (bk 0 0 + 1))) 201 = up1 (gA h 201) (16 * w + bk 0 0) v6 := by
        rw [gA_k (by decide), gA_s, A6, gA_k (by decide), A5, gA_k (by decide), A4, A3, gAB, A2, A1]
      have g00 : gA (sA (sA h6 201 (16 * w + bk 0 0) v6) 197 w (nI (bk 0 0 + 1))) 200 = up1 (gA h 200) (16 * w + bk 0 0) v5 := by
        rw [gA_k (by decide), gA_k (by decide), A6, gA_s, A5, gA_k (by decide), A4, A3, gAB, A2, A1]
      have g99 : gA (sA (sA h6 201 (16 * w + bk 0 0) v6) 197 w (nI (bk 0 0 + 1))) 199 = up1 (gA h 199) (16 * w + bk 0 0) v3 := by
        rw [gA_k (by decide), gA_k (by decide), A6, gA_k (by decide), A5, gA_s, A4, A3, gAB, A2, A1]
      have g98 : gB (sA (sA h6 201 (16 * w + bk 0 0) v6) 197 w (nI (bk 0 0 + 1))) 198 = up1 (gB h 198) (16 * w + bk 0 0) v2 := by
        rw [gBA, gBA, B6, gBA, B5, gBA, B4, B3, gB_s, B2, B1]
      have gA' : ∀ x, x ≠ 197 → x ≠ 199 → x ≠ 200 → x ≠ 201 → gA (sA (sA h6 201 (16 * w + bk 0 0) v6) 197 w (nI (bk 0 0 + 1))) x = gA h x := fun x x1 x2 x3 x4 => by
        rw [gA_k x1, gA_k x4, A6, gA_k x3, A5, gA_k x2, A4, A3, gAB, A2, A1]
      have gB' : ∀ x, x ≠ 198 → gB (sA (sA h6 201 (16 * w + bk 0 0) v6) 197 w (nI (bk 0 0 + 1))) x = gB h x := fun x x1 => by
        rw [gBA, gBA, B6, gBA, B5, gBA, B4, B3, gB_k x1, B2, B1]
      generalize (sA (sA h6 201 (16 * w + bk 0 0) v6) 197 w (nI (bk 0 0 + 1))) = H at *
      have k0 : oBk t k bk 0 0 = bk 0 0 + 1 := up2_s
      have kx : ∀ j, j ≠ 0 → oBk t k bk 0 j = bk 0 j := fun j hj => by
        unfold oBk; rw [up2_x hj, up2_k (by decide), up2_k (by decide), up2_k (by decide), up2_k (by decide)]
      have kk : ∀ j, 5 ≤ j → oBk t k bk j = bk j := fun j hj => by
        unfold oBk; rw [up2_k (by omega), up2_k (by omega), up2_k (by omega), up2_k (by omega), up2_k (by omega)]
      have kn : ∀ j i v, (j = 1 ∧ v = tV t (k + 1) ∨ j = 2 ∧ v = tV t (k + 2) ∨ j = 3 ∧ v = tV t (k + 3) ∨ j = 4 ∧ v = tV t (k + 4)) → oBk t k bk j i = if i = bk 0 0 then v else bk j i := fun j i v hj => by
        unfold oBk
        rcases hj with ⟨rfl, rfl⟩ | ⟨rfl, rfl⟩ | ⟨rfl, rfl⟩ | ⟨rfl, rfl⟩ <;> simp [up2, up1]
      unfold RB
      simp only [kx 1 (by decide), kx 2 (by decide), kx 3 (by decide), kx 4 (by decide), k0, kk 5 (by decide), kk 6 (by decide), kk 7 (by decide), kk 8 (by decide), kk 9 (by decide), kk 10 (by decide), kk 11 (by decide), kk 12 (by decide), kk 13 (by decide), kk 14 (by decide), kk 15 (by decide), kk 16 (by decide), kk 17 (by decide), kk 18 (by decide), kk 19 (by decide), kk 20 (by decide), kk 21 (by decide), kk 22 (by decide), kk 23 (by decide), kk 24 (by decide), kk 25 (by decide), kk 26 (by decide), kk 27 (by decide), kk 28 (by decide), kk 29 (by decide), kk 30 (by decide), kk 31 (by decide)]
      rw [gA' 202 (by decide) (by decide) (by decide) (by decide), gA' 205 (by decide) (by decide) (by decide) (by decide), gA' 207 (by decide) (by decide) (by decide) (by decide), gA' 208 (by decide) (by decide) (by decide) (by decide), gA' 209 (by decide) (by decide) (by decide) (by decide), gA' 210 (by decide) (by decide) (by decide) (by decide), gA' 211 (by decide) (by decide) (by decide) (by decide), gA' 212 (by decide) (by decide) (by decide) (by decide), gA' 213 (by decide) (by decide) (by decide) (by decide), gA' 214 (by decide) (by decide) (by decide) (by decide), gA' 215 (by decide) (by decide) (by decide) (by decide), gA' 216 (by decide) (by decide) (by decide) (by decide), gA' 218 (by decide) (by decide) (by decide) (by decide), gA' 219 (by decide) (by decide) (by decide) (by decide), gA' 220 (by decide) (by decide) (by decide) (by decide), gA' 221 (by decide) (by decide) (by decide) (by decide), gA' 222 (by decide) (by decide) (by decide) (by decide), gA' 223 (by decide) (by decide) (by decide) (by decide), gA' 224 (by decide) (by decide) (by decide) (by decide), gA' 225 (by decide) (by decide) (by decide) (by decide), gA' 226 (by decide) (by decide) (by decide) (by decide), gA' 227 (by decide) (by decide) (by decide) (by decide), gA' 228 (by decide) (by decide) (by decide) (by decide), gA' 229 (by decide) (by decide) (by decide) (by decide), gA' 230 (by decide) (by decide) (by decide) (by decide), gA' 231 (by decide) (by decide) (by decide) (by decide), gA' 232 (by decide) (by decide) (by decide) (by decide), gB' 203 (by decide), gB' 204 (by decide), gB' 206 (by decide), gB' 217 (by decide)]
      refine ⟨⟨by rw [g97, up1_s], b1'.2⟩, fun i hi => ?_, b3', b4', b5', b6'⟩
      rw [g98, g99, g00, g01, kn 1 i _ (Or.inl ⟨rfl, rfl⟩), kn 2 i _ (Or.inr (Or.inl ⟨rfl, rfl⟩)), kn 3 i _ (Or.inr (Or.inr (Or.inl ⟨rfl, rfl⟩))), kn 4 i _ (Or.inr (Or.inr (Or.inr ⟨rfl, rfl⟩)))]
      by_cases z : i = bk 0 0
      · rw [z, up1_s, up1_s, up1_s, up1_s, if_pos rfl, if_pos rfl, if_pos rfl, if_pos rfl]; exact ⟨e2, e3, e5, e6⟩
      · rw [up1_x (by omega), up1_x (by omega), up1_x (by omega), up1_x (by omega), if_neg z, if_neg z, if_neg z, if_neg z]; exact b2' i (by omega)
end ROF
