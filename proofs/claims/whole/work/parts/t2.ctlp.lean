/-! ===== THE REFERENCE'S CONSTRUCTOR: its loops, before the static world stands ===== -/
section CTL
variable {d : Nat} {b g g' h : AH} {K X : List Nat}
/-- the strings are there -/
def SE (g : AH) : Prop := (∀ z, z < 28 → gC g z = 15 ∧ gR g 3840 z = some (30 + z) ∧ gC g (30 + z) = 64 ∧ gK g (30 + z) = (bS z).length) ∧ KS g
theorem SE.fr (a : SE g) (f : Fr K X g g') (hK : 3841 ∉ K) (hX : ∀ x, x ∈ X → 61 ≤ x) : SE g' := by
  refine ⟨?_, a.2.fr f hK hX⟩
  rw [f.2.1, f.2.2.1, f.2.2.2.1]; exact a.1
theorem n_len (k : SE h) {z : Nat} (hz : z < 28) : E (d + 2) 190 [.ref z] h = some (some (.int (nI (chS z).length)), h) := by
  obtain ⟨a1, a2, a3, a4⟩ := k.1 z hz
  rw [n_190, ck_ok a1, a2, Option.bind_some, if_pos (by rw [a3]; decide), ck_ok a1, n_227, if_neg (by decide), ck_ok a1, k.2.2 z hz, if_pos (by decide), cK_v, n_190_9, a4, bS_l, pk_shrN (n := (chS z).length) (by
    have q : ∀ z, z < 28 → (chS z).length < 1000 := by decide +kernel
    have := q z hz; omega) _ 0 (by decide), Nat.pow_zero, Nat.div_one]
theorem n_ckI {i n : Nat} (hi : i < n) (hn : n < 2 ^ 31) : E (d + 2) 275 [.int (nI i), .int (nI n)] h = some (none, h) := by
  rw [n_275]
  have e : E (d + 1) 344 [.int (nI i), .int (nI n), gsv h 64] h = some (some (.int (nI i)), h) := by
    unfold gsv
    cases Nat.beq 64 64 && Nat.beq (gK h 64) 1 with
    | true => rw [cond_true, n_344n, if_neg (nI_nlt (by omega) (by omega)), if_pos (nI_lt hi hn)]
    | false => rw [cond_false, n_344, if_neg (nI_nlt (by omega) (by omega)), if_pos (nI_lt hi hn)]
  rw [e, cK_v, n_275_8]
theorem n_chr (k : SE h) {z i : Nat} (hz : z < 28) (hi : i < (chS z).length) : E (d + 4) 191 [.ref z, .int (nI i)] h = some (some (.int (nI ((chS z).getD i 0))), h) := by
  obtain ⟨a1, a2, a3, a4⟩ := k.1 z hz
  obtain ⟨b1, b2⟩ := k.2.ch hz hi
  have hl := ch_len hz
  rw [bS_l] at a4
  rw [n_191, ck_ok a1, n_228, if_neg (by decide), ck_ok a1, k.2.2 z hz, if_pos (by decide), cK_v, n_191_4, if_neg (by decide), ck_ok a1, a2, Option.bind_some, n_229, if_pos (by rw [a3]; decide), a4, n_ckI hi (by omega), cK_n, n_229_6, ck_ok a3, a4, gd_nI hi (by omega), ix_nI (by omega), b1, (chr_u _ b2).1, if_pos (pk_charN (by omega)).1, cK_v, n_191_15, if_pos (pk_charN (by omega)).1]
def rkW (c : Nat) : Nat := if 97 ≤ c ∧ c ≤ 122 then c - 96 else if 48 ≤ c ∧ c ≤ 57 then c - 21 else 0
theorem n_rank {c : Nat} (hc : c < 1000) : E (d + 1) 30 [.int (nI c)] h = some (some (.int (nI (rkW c))), h) := by
  unfold rkW
  rw [n_30]
  simp only [nlt' (show c < 2 ^ 31 by omega) (show 97 < 2 ^ 31 by decide), nlt' (show c < 2 ^ 31 by omega) (show 48 < 2 ^ 31 by decide), nlt' (show 57 < 2 ^ 31 by decide) (show c < 2 ^ 31 by omega), nlt' (show 122 < 2 ^ 31 by decide) (show c < 2 ^ 31 by omega)]
  by_cases q2 : 97 ≤ c ∧ c ≤ 122
  · rw [if_neg (by omega), if_neg (by omega), if_pos q2, pk_sub (by omega)]
  · rw [if_neg q2]
    by_cases q3 : 48 ≤ c ∧ c ≤ 57
    · rw [if_pos (by omega), if_neg (by omega), if_neg (by omega), if_pos q3, pk_sub (by omega)]
    · rw [if_neg q3]
      by_cases q4 : c < 97
      · rw [if_pos q4]
        by_cases q5 : c < 48
        · rw [if_pos q5]
        · rw [if_neg q5, if_pos (by omega)]
      · rw [if_neg q4, if_pos (by omega), if_neg (by omega), if_pos (by omega)]
/-- the words that are spelt -/
def kf : List Nat → Nat → Nat → (Nat → Int64) → Nat → Int64
  | [], _, _, B => B
  | c :: t, w, p, B => if c = 32 then kf t (w + 1) 0 (up1 B w (lN p)) else kf t w (37 * p + rkW c) B
def nsp (l : List Nat) : Nat := (l.filter fun c => Nat.beq c 32).length
theorem rkW_lt {c : Nat} : rkW c < 64 := by unfold rkW; split <;> (try split) <;> omega
theorem kf_lp (S : SE b) (b1 : gC b 189 = 14) (b2 : gR b 3585 189 = some 190) (b3 : gC b 190 = 61) (b4 : gK b 190 = 80) : ∀ (m k w p : Nat) (g : AH), m + k = (chS 27).length → Fr [] [190] b g → w + nsp ((chS 27).drop k) ≤ 80 → ∃ g', Q (d + 4) 1 920 [some (.ref 189), some (.int (nI w)), some (.long (lN p)), none, some (.int (nI k)), none] [] g = Q (d + 4) 1 986 [some (.ref 189), none, none, none, some (.int (nI 1)), some (.int (nI 0))] [] g' ∧ Fr [] [190] b g' ∧ gB g' 190 = kf ((chS 27).drop k) w p (gB g 190)
  | 0, k, w, p, g, e, F, hw => by
    have S' := S.fr F List.not_mem_nil (fun x q => by rw [List.mem_singleton.mp q]; decide)
    refine ⟨g, ?_, F, ?_⟩
    · rw [n_1_920, ck_ok (S'.1 27 (by decide)).1, n_len S' (by decide), cK_v, n_1_927, if_neg (nI_nlt (by have := ch_len (z := 27) (by decide); omega) (by have := ch_len (z := 27) (by decide); omega))]
    · rw [List.drop_eq_nil_of_le (by omega)]; unfold kf; rfl
  | m + 1, k, w, p, g, e, F, hw => by
    have S' := S.fr F List.not_mem_nil (fun x q => by rw [List.mem_singleton.mp q]; decide)
    have hl := ch_len (z := 27) (by decide)
    have hk : k < (chS 27).length := by omega
    have hd : (chS 27).drop k = (chS 27).getD k 0 :: (chS 27).drop (k + 1) := by
      rw [List.drop_eq_getElem_cons hk, List.getD_eq_getElem?_getD, List.getElem?_eq_getElem hk]; rfl
    have hc := (S'.2.ch (z := 27) (i := k) (by decide) hk).2
    obtain ⟨c, hcE⟩ : ∃ c, c = (chS 27).getD k 0 := ⟨_, rfl⟩
    rw [← hcE] at hd hc
    rw [hd] at hw ⊢
    have e0 : Q (d + 4) 1 920 [some (.ref 189), some (.int (nI w)), some (.long (lN p)), none, some (.int (nI k)), none] [] g = Q (d + 4) 1 937 [some (.ref 189), some (.int (nI w)), some (.long (lN p)), none, some (.int (nI k)), none] [.int (nI c)] g := by
      rw [n_1_920, ck_ok (S'.1 27 (by decide)).1, n_len S' (by decide), cK_v, n_1_927, if_pos (nI_lt hk (by omega)), ck_ok (S'.1 27 (by decide)).1, n_chr S' (by decide) hk, cK_v, ← hcE]
    rw [e0, n_1_937, ife (by omega) (by decide)]
    unfold kf
    by_cases q : c = 32
    · have hn : nsp (c :: (chS 27).drop (k + 1)) = nsp ((chS 27).drop (k + 1)) + 1 := by unfold nsp; rw [q]; rfl
      rw [hn] at hw
      have F' : Fr [] [190] b (sB g 190 w (lN p)) := F.trans (Fr.rfl.sB (List.mem_singleton.mpr rfl))
      obtain ⟨g', a1, a2, a3⟩ := kf_lp S b1 b2 b3 b4 m (k + 1) (w + 1) 0 (sB g 190 w (lN p)) (by omega) F' (by omega)
      refine ⟨g', ?_, a2, ?_⟩
      · rw [if_pos q, F.2.1, b1, ck_ok rfl, F.2.2.2.1, b2, Option.bind_some, b3, cw_ok rfl (by decide), F.2.2.1, b4, gd_nI (by omega) (by decide), ix_nI (by omega), nI_add, nI_add]
        exact a1
      · rw [if_pos q, a3, gB_s]
    · have hn : nsp (c :: (chS 27).drop (k + 1)) = nsp ((chS 27).drop (k + 1)) := by
        unfold nsp; rw [List.filter_cons_of_neg (by intro z; exact q (Nat.eq_of_beq_eq_true z))]
      rw [hn] at hw
      obtain ⟨g', a1, a2, a3⟩ := kf_lp S b1 b2 b3 b4 m (k + 1) w (37 * p + rkW c) g (by omega) F hw
      refine ⟨g', ?_, a2, ?_⟩
      · rw [if_neg q, n_rank (by omega), cK_v, n_1_971, nI_l (Nat.lt_trans rkW_lt (by decide)), show (37 : Int64) = lN 37 from rfl, lN_mul, lN_add, nI_add]
        exact a1
      · rw [if_neg q, a3]
theorem kf_kw : ∀ w, w < 74 → kf (chS 27) 1 0 (fun _ => 0) w = lN (kw w) := by decide +kernel
theorem kf_n : 1 + nsp (chS 27) ≤ 80 := by decide +kernel
/-- the powers -/
theorem pw_sh : ∀ k, k < 126 → (nI 63 < nI (pw k) <<< (nI 1 &&& 31) → (nI (pw k) <<< (nI 1 &&& 31)) ^^^ nI 67 = nI (pw (k + 1))) ∧ (¬ nI 63 < nI (pw k) <<< (nI 1 &&& 31) → nI (pw k) <<< (nI 1 &&& 31) = nI (pw (k + 1))) := by decide +kernel
theorem pw_inj : ∀ i, i < 63 → ∀ j, j < 63 → pw i = pw j → i = j := by decide +kernel
def PWi (k : Nat) (g : AH) : Prop := (∀ i, i < k → gA g 191 i = nI (pw i)) ∧ ∀ i, i < 63 → i < k → gA g 192 (pw i) = nI i
theorem PWi.one {k : Nat} (a : PWi k g) {v : Int32} (hv : k < 63 → v = nI k) (hv2 : 63 ≤ k → v = gA g 192 (pw k)) : PWi (k + 1) (sA (sA g 191 k (nI (pw k))) 192 (pw k) v) := by
  obtain ⟨a1, a2⟩ := a
  constructor
  · intro i hi
    rw [gA_k (by decide), gA_s]
    by_cases q : i = k
    · rw [q, up1_s]
    · rw [up1_x q]; exact a1 i (by omega)
  · intro i hi hk
    rw [gA_s, gA_k (by decide)]
    by_cases q : pw i = pw k
    · rw [q, up1_s]
      by_cases z : k < 63
      · rw [hv z, pw_inj i hi k z q]
      · rw [hv2 (by omega), ← q]; exact a2 i hi (by omega)
    · rw [up1_x q]
      refine a2 i hi ?_
      by_cases z : i = k
      · rw [z] at q; exact absurd rfl q
      · omega
theorem pw_lp (b1 : gC b 189 = 14) (b2 : gR b 3587 189 = some 191) (b3 : gR b 3588 189 = some 192) (b4 : gC b 191 = 60) (b5 : gK b 191 = 126) (b6 : gC b 192 = 60) (b7 : gK b 192 = 64) : ∀ (r k : Nat) (g : AH), r + k = 126 → Fr [] [191, 192] b g → PWi k g → ∃ g' x', Q d 1 986 [some (.ref 189), none, none, none, some (.int (nI (pw k))), some (.int (nI k))] [] g = cK (E d 31 [.ref 189] g') (Q d 1 1063 [some (.ref 189), none, none, none, some (.int x'), some (.int (nI 126))]) [] ∧ Fr [] [191, 192] b g' ∧ PWi 126 g'
  | 0, k, g, e, F, P => by
    have : k = 126 := by omega
    subst this
    exact ⟨g, nI (pw 126), by rw [n_1_986, if_neg (by decide), F.2.1, b1, ck_ok rfl], F, P⟩
  | r + 1, k, g, e, F, P => by
    have hp := (pw_lt (i := k)).1
    have F1 : Fr [] [191, 192] b (sA g 191 k (nI (pw k))) := F.trans (Fr.rfl.sA (by decide))
    have pre : ∀ v, Fr [] [191, 192] b (sA (sA g 191 k (nI (pw k))) 192 (pw k) v) := fun v => F1.trans (Fr.rfl.sA (by decide))
    obtain ⟨q1, q2⟩ := pw_sh k (by omega)
    have go : ∀ v, (k < 63 → v = nI k) → (63 ≤ k → v = gA g 192 (pw k)) → ∃ g' x', (if nI 63 < nI (pw k) <<< (nI 1 &&& 31) then Q d 1 986 [some (.ref 189), none, none, none, some (.int ((nI (pw k) <<< (nI 1 &&& 31)) ^^^ nI 67)), some (.int (nI k + nI 1))] [] (sA (sA g 191 k (nI (pw k))) 192 (pw k) v) else Q d 1 986 [some (.ref 189), none, none, none, some (.int (nI (pw k) <<< (nI 1 &&& 31))), some (.int (nI k + nI 1))] [] (sA (sA g 191 k (nI (pw k))) 192 (pw k) v)) = cK (E d 31 [.ref 189] g') (Q d 1 1063 [some (.ref 189), none, none, none, some (.int x'), some (.int (nI 126))]) [] ∧ Fr [] [191, 192] b g' ∧ PWi 126 g' := fun v v1 v2 => by
      obtain ⟨g', x', i1, i2, i3⟩ := pw_lp b1 b2 b3 b4 b5 b6 b7 r (k + 1) _ (by omega) (pre v) (P.one v1 v2)
      refine ⟨g', x', ?_, i2, i3⟩
      by_cases z : nI 63 < nI (pw k) <<< (nI 1 &&& 31)
      · rw [if_pos z, q1 z, nI_add]; exact i1
      · rw [if_neg z, q2 z, nI_add]; exact i1
    rw [n_1_986, if_pos (nI_lt (by omega) (by decide)), F.2.1, b1, ck_ok rfl, F.2.2.2.1, b2, Option.bind_some, b4, cw_ok rfl (by decide), F.2.2.1, b5, gd_nI (by omega) (by decide), ck_ok rfl, b3, Option.bind_some]
    by_cases z : k < 63
    · rw [if_pos (nI_lt z (by decide)), b6, cw_ok rfl (by decide), b7, gd_nI (by omega) (by decide), ix_nI (by omega), ix_nI (by omega)]
      exact go _ (fun _ => rfl) (fun w => by omega)
    · rw [if_neg (nI_nlt (by omega) (by omega)), ck_ok rfl, Option.bind_some, b6, ck_ok rfl, b7, gd_nI (by omega) (by decide), cw_ok rfl (by decide), gd_nI (by omega) (by decide), ix_nI (by omega), ix_nI (by omega)]
      exact go _ (fun w => by omega) (fun _ => by rw [gA_k (by decide)])
/-- all is forgotten, before the static world stands -/
theorem lpA' {y pc x n : Nat} {v : Int32} {T : AH → Option Ot} (hst : ∀ (g : AH) (i : Nat), Fr [] [x] b g → i ≤ n → Q d y pc [some (.ref 189), some (.int (nI i))] [] g = if i < n then Q d y pc [some (.ref 189), some (.int (nI (i + 1)))] [] (sA g x i v) else T g) : ∀ (r i : Nat) {h : AH}, r + i = n → Fr [] [x] b h → (∀ j, j < i → gA h x j = v) → ∃ h', Q d y pc [some (.ref 189), some (.int (nI i))] [] h = T h' ∧ Fr [] [x] b h' ∧ ∀ j, j < n → gA h' x j = v := by
  intro r
  induction r with
  | zero => intro i h e hs hj; exact ⟨h, by rw [hst h i hs (by omega), if_neg (by omega)], hs, fun j q => hj j (by omega)⟩
  | succ r ih =>
    intro i h e hs hj
    have F : Fr [] [x] h (sA h x i v) := Fr.rfl.sA (List.mem_singleton.mpr rfl)
    obtain ⟨h', o1, o2, o3⟩ := ih (i + 1) (by omega) (hs.trans F) (fun j q => by
      rw [gA_s]
      by_cases z : j = i
      · rw [z, up1_s]
      · rw [up1_x z]; exact hj j (by omega))
    exact ⟨h', by rw [hst h i hs (by omega), if_pos (by omega)]; exact o1, o2, o3⟩
theorem lpB' {y pc x n : Nat} {v : Int64} {T : AH → Option Ot} (hst : ∀ (g : AH) (i : Nat), Fr [] [x] b g → i ≤ n → Q d y pc [some (.ref 189), some (.int (nI i))] [] g = if i < n then Q d y pc [some (.ref 189), some (.int (nI (i + 1)))] [] (sB g x i v) else T g) : ∀ (r i : Nat) {h : AH}, r + i = n → Fr [] [x] b h → (∀ j, j < i → gB h x j = v) → ∃ h', Q d y pc [some (.ref 189), some (.int (nI i))] [] h = T h' ∧ Fr [] [x] b h' ∧ ∀ j, j < n → gB h' x j = v := by
  intro r
  induction r with
  | zero => intro i h e hs hj; exact ⟨h, by rw [hst h i hs (by omega), if_neg (by omega)], hs, fun j q => hj j (by omega)⟩
  | succ r ih =>
    intro i h e hs hj
    have F : Fr [] [x] h (sB h x i v) := Fr.rfl.sB (List.mem_singleton.mpr rfl)
    obtain ⟨h', o1, o2, o3⟩ := ih (i + 1) (by omega) (hs.trans F) (fun j q => by
      rw [gB_s]
      by_cases z : j = i
      · rw [z, up1_s]
      · rw [up1_x z]; exact hj j (by omega))
    exact ⟨h', by rw [hst h i hs (by omega), if_pos (by omega)]; exact o1, o2, o3⟩
/-- the rows that are filled are there -/
def FgR (b : AH) : Prop := gC b 189 = 14 ∧ (gR b 3671 189 = some 257 ∧ gC b 257 = 60 ∧ gK b 257 = 40) ∧ (gR b 3669 189 = some 255 ∧ gC b 255 = 60 ∧ gK b 255 = 16) ∧ (gR b 3710 189 = some 282 ∧ gC b 282 = 61 ∧ gK b 282 = 10) ∧ (gR b 3711 189 = some 283 ∧ gC b 283 = 60 ∧ gK b 283 = 4) ∧ gR b 3712 189 = some 284 ∧ gC b 284 = 60 ∧ gK b 284 = 12
theorem FgR.fr (a : FgR b) (f : Fr K X b g) : FgR g := by
  unfold FgR; rw [f.2.1, f.2.2.1, f.2.2.2.1]; exact a
theorem n_fgRun (B : FgR b) : ∃ h', E (d + 1) 32 [.ref 189] b = some (none, h') ∧ Fr [] [282, 283, 284] b h' ∧ RZ h' := by
  obtain ⟨h1, a1, a2, a3⟩ := lpB' (b := b) (d := d) (y := 32) (pc := 2) (x := 282) (n := 10) (v := 0) (T := fun g => Q d 32 23 [some (.ref 189), some (.int (nI 0))] [] g) (fun g i hg hi => by
    obtain ⟨c1, -, -, ⟨c2, c3, c4⟩, -⟩ := B.fr hg
    rw [n_32_2, ifl (by omega) (by decide)]
    by_cases q : i < 10
    · rw [if_pos q, if_pos q, ck_ok c1, c2, Option.bind_some, cw_ok c3 (by decide), c4, gd_nI q (by decide), ix_nI (by omega), nI_add]
    · rw [if_neg q, if_neg q]) 10 0 rfl Fr.rfl (fun j q => absurd q (by omega))
  have B1 := B.fr a2
  obtain ⟨h2, b1, b2, b3⟩ := lpA' (b := h1) (d := d) (y := 32) (pc := 23) (x := 283) (n := 4) (v := -1) (T := fun g => Q d 32 43 [some (.ref 189), some (.int (nI 0))] [] g) (fun g i hg hi => by
    obtain ⟨c1, -, -, -, ⟨c2, c3, c4⟩, -⟩ := B1.fr hg
    rw [n_32_23, ifl (by omega) (by decide)]
    by_cases q : i < 4
    · rw [if_pos q, if_pos q, ck_ok c1, c2, Option.bind_some, cw_ok c3 (by decide), c4, gd_nI q (by decide), ix_nI (by omega), nI_add]
    · rw [if_neg q, if_neg q]) 4 0 rfl Fr.rfl (fun j q => absurd q (by omega))
  have B2 := B1.fr b2
  obtain ⟨h3, c1, c2, c3⟩ := lpA' (b := h2) (d := d) (y := 32) (pc := 43) (x := 284) (n := 12) (v := -1) (T := fun g => some (none, g)) (fun g i hg hi => by
    obtain ⟨c1, -, -, -, -, c2, c3, c4⟩ := B2.fr hg
    rw [n_32_43, ifl (by omega) (by decide)]
    by_cases q : i < 12
    · rw [if_pos q, if_pos q, ck_ok c1, c2, Option.bind_some, cw_ok c3 (by decide), c4, gd_nI q (by decide), ix_nI (by omega), nI_add]
    · rw [if_neg q, if_neg q]) 12 0 rfl Fr.rfl (fun j q => absurd q (by omega))
  refine ⟨h3, ?_, ((a2.wk (by decide) (by decide)).trans (b2.wk (by decide) (by decide))).trans (c2.wk (by decide) (by decide)), fun k hk => ?_, fun k hk => ?_, c3⟩
  · rw [n_32, a1, b1, c1]
  · rw [c2.B (by decide), b2.B (by decide)]; exact a3 k hk
  · rw [c2.A (by decide)]; exact b3 k hk
theorem n_forget (B : FgR h) : ∃ h', E (d + 2) 31 [.ref 189] h = some (none, h') ∧ Fr KZ XZ h h' ∧ RZ0 h' := by
  have F0 : Fr KZ XZ h (sI (sI (sI (sI (sI (sI (sI (sI (sI (sI (sI (sI h 3654 189 (nI 0)) 3677 189 (nI 0)) 3678 189 (nI 7)) 3688 189 (nI 0)) 3676 189 (nI 0)) 3720 189 (nI 0)) 3667 189 (nI 0)) 3644 189 (-1)) 3645 189 (-1)) 3653 189 (-1)) 3695 189 (nI 0)) 3679 189 (-1)) := ((((((((((((Fr.rfl.sI (by decide)).sI (by decide)).sI (by decide)).sI (by decide)).sI (by decide)).sI (by decide)).sI (by decide)).sI (by decide)).sI (by decide)).sI (by decide)).sI (by decide)).sI (by decide))
  have B0 := B.fr F0
  obtain ⟨h1, a1, a2, a3⟩ := lpA' (b := sI (sI (sI (sI (sI (sI (sI (sI (sI (sI (sI (sI h 3654 189 (nI 0)) 3677 189 (nI 0)) 3678 189 (nI 7)) 3688 189 (nI 0)) 3676 189 (nI 0)) 3720 189 (nI 0)) 3667 189 (nI 0)) 3644 189 (-1)) 3645 189 (-1)) 3653 189 (-1)) 3695 189 (nI 0)) 3679 189 (-1)) (d := d + 1) (y := 31) (pc := 63) (x := 257) (n := 40) (v := nI 0) (T := fun g => Q (d + 1) 31 84 [some (.ref 189), some (.int (nI 0))] [] g) (fun g i hg hi => by
    obtain ⟨c1, ⟨c2, c3, c4⟩, -⟩ := B0.fr hg
    rw [n_31_63, ifl (by omega) (by decide)]
    by_cases q : i < 40
    · rw [if_pos q, if_pos q, ck_ok c1, c2, Option.bind_some, cw_ok c3 (by decide), c4, gd_nI q (by decide), ix_nI (by omega), nI_add]
    · rw [if_neg q, if_neg q]) 40 0 rfl Fr.rfl (fun j q => absurd q (by omega))
  have B1 := B0.fr a2
  obtain ⟨h2, b1, b2, b3⟩ := lpA' (b := h1) (d := d + 1) (y := 31) (pc := 84) (x := 255) (n := 16) (v := nI 0) (T := fun g => cK (E (d + 1) 32 [.ref 189] g) (Q (d + 1) 31 107 [some (.ref 189), some (.int (nI 16))]) []) (fun g i hg hi => by
    obtain ⟨c1, -, ⟨c2, c3, c4⟩, -⟩ := B1.fr hg
    rw [n_31_84, ifl (by omega) (by decide)]
    by_cases q : i < 16
    · rw [if_pos q, if_pos q, ck_ok c1, c2, Option.bind_some, cw_ok c3 (by decide), c4, gd_nI q (by decide), ix_nI (by omega), nI_add]
    · rw [if_neg q, if_neg q, ck_ok c1, show i = 16 from by omega]) 16 0 rfl Fr.rfl (fun j q => absurd q (by omega))
  obtain ⟨h3, c1, c2, c3⟩ := n_fgRun (d := d) (B1.fr b2)
  have F := ((F0.trans (a2.wk (by decide) (by decide))).trans (b2.wk (by decide) (by decide))).trans (c2.wk (K' := KZ) (X' := XZ) (by decide) (by decide))
  have gi : ∀ k, gI h3 k = gI (sI (sI (sI (sI (sI (sI (sI (sI (sI (sI (sI (sI h 3654 189 (nI 0)) 3677 189 (nI 0)) 3678 189 (nI 7)) 3688 189 (nI 0)) 3676 189 (nI 0)) 3720 189 (nI 0)) 3667 189 (nI 0)) 3644 189 (-1)) 3645 189 (-1)) 3653 189 (-1)) 3695 189 (nI 0)) 3679 189 (-1)) k := fun k => by
    rw [c2.I List.not_mem_nil, b2.I List.not_mem_nil, a2.I List.not_mem_nil]
  have c14 : gC h 189 = 14 := B.1
  refine ⟨h3, ?_, F, c3, fun k hk => ?_, fun k hk => ?_, ?_⟩
  · rw [n_31, ck_ok c14, ck_ok c14, ck_ok c14, n_31_16]
    refine (ck_ok c14).trans ((ck_ok c14).trans ((ck_ok c14).trans ?_))
    rw [n_31_31]
    refine (ck_ok c14).trans ((ck_ok c14).trans ((ck_ok c14).trans ?_))
    rw [n_31_46]
    refine (ck_ok c14).trans ((ck_ok c14).trans ((ck_ok c14).trans ?_))
    rw [a1, b1, c1, cK_n, n_31_107]
  · rw [c2.A (by decide), b2.A (by decide)]; exact a3 k hk
  · rw [c2.A (by decide)]; exact b3 k hk
  · rw [gi, gi, gi, gi, gi, gi, gi, gi, gi, gi, gi, gi]
    simp (decide := true) only [gI_s, gI_k, ne_eq, not_false_eq_true, and_self]
end CTL
