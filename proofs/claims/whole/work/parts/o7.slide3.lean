/-! ===== RUN: statements on both sides: slide, as a whole ===== -/
section SLK
variable {c : CXm} {M N d k k' D T p n a t u f z kk : Nat} {hc hr h h0 h1 hc' hr' : AH} {L : Cds} {w l la lb lm : Int64} {x : Int32} {st : St} {G Cp : Nat → Nat → Nat}
theorem b_slide (K : KXs c) (ht : t < 12) (hu : u < 12) (g : Gs c D 5 p k hc hr) (v0 : gB hr 289 0 = (nI t).toInt64) (v1 : gB hr 289 1 = la) (v2 : gB hr 289 2 = (nI u).toInt64) (v3 : gB hr 289 3 = lb) (v4 : gB hr 289 4 = lm) (h4 : p < 4400) {y : Int32} (A : AT (hR c) (4400 * kn c 5 + p) [(nI 34, y)]) (hn : 6 ≤ n) {u1 : Option Value} : StO c (Q n 338 111 [some (.ref 175), u1, some (.int (nI t)), some (.long la), none, some (.int (nI u)), some (.long lb), none, some (.long lm), none] [.int (nI 1)] hc) hc hr D (p + 1) k := by
  obtain ⟨n, rfl⟩ : ∃ m, n = m + 1 := ⟨n - 1, by omega⟩
  have s := g.sC
  have sr := g.sR K
  have sf : Sh (fet hr p) := fet_fr.sh sr
  obtain ⟨-, -, ⟨st, G, Cp, q⟩, -⟩ := id g.1
  have Wb := K.2.2.1
  obtain ⟨h0, hE0⟩ : ∃ h0, h0 = sI (sI (sI (sI (sI (fet hr p) 3723 189 (nI 4)) 3723 189 (nI 3)) 3723 189 (nI 2)) 3723 189 (nI 1)) 3723 189 (nI 0) := ⟨_, rfl⟩
  have f0 : Fr [3723, 3724, 3733] [] hr h0 := by rw [hE0]; exact (((((fet_fr.wk (by decide) (fun _ q => q)).sI (by decide)).sI (by decide)).sI (by decide)).sI (by decide)).sI (by decide)
  have s0 := f0.sh sr
  have c0 : gI h0 3733 189 = nI 0 := by rw [hE0, gI_k (by decide), gI_k (by decide), gI_k (by decide), gI_k (by decide), gI_k (by decide)]; exact fet_c
  have q0 : gI h0 3724 189 = nI (p + 1) := by rw [hE0, gI_k (by decide), gI_k (by decide), gI_k (by decide), gI_k (by decide), gI_k (by decide)]; exact fet_p
  have t0 : gI h0 3723 189 = nI 0 := by rw [hE0, gI_s]
  have ff : Fr [3723, 3733] [289] (fet hr p) h0 := by rw [hE0]; exact ((((Fr.rfl.sI (by decide)).sI (by decide)).sI (by decide)).sI (by decide)).sI (by decide)
  have r0 : CRm c hc h0 := g.1.frR (f0.wk (by decide) (fun _ q => absurd q List.not_mem_nil))
  have eB : ∀ i, gB h0 289 i = gB hr 289 i := fun i => congrFun (f0.B List.not_mem_nil) i
  have eA : gA h0 284 = gA hr 284 := f0.A List.not_mem_nil
  have eR : E (kn c 8 + 20) 152 [.ref 189, .int (nI 34), .int y] (fet hr p) = cK (cK (Q (kn c 8 + 17) 169 36 [some (.ref 189), some (.long lm), none, some (.long lb), none, some (.int (gA hr 284 u)), some (.long la), none, none, none, none, none, none] [.long (nI t).toInt64, .ref 284] h0) (Q (kn c 8 + 18) 159 168 [some (.ref 189), some (.int (nI 34)), some (.int y), none, none, none, none, none, none]) []) (Q (kn c 8 + 19) 152 27 [some (.ref 189), some (.int (nI 34)), some (.int y)]) [] := by
    obtain ⟨g1, hg1⟩ : ∃ g1, g1 = sI (fet hr p) 3723 189 (nI 4) := ⟨_, rfl⟩
    have a1 : Fr [3723] [] (fet hr p) g1 := by rw [hg1]; exact Fr.rfl.sI (by decide)
    obtain ⟨g2, hg2⟩ : ∃ g2, g2 = sI g1 3723 189 (nI 3) := ⟨_, rfl⟩
    have a2 : Fr [3723] [] (fet hr p) g2 := by rw [hg2]; exact a1.sI (by decide)
    obtain ⟨g3, hg3⟩ : ∃ g3, g3 = sI g2 3723 189 (nI 2) := ⟨_, rfl⟩
    have a3 : Fr [3723] [] (fet hr p) g3 := by rw [hg3]; exact a2.sI (by decide)
    obtain ⟨g4, hg4⟩ : ∃ g4, g4 = sI g3 3723 189 (nI 1) := ⟨_, rfl⟩
    have a4 : Fr [3723] [] (fet hr p) g4 := by rw [hg4]; exact a3.sI (by decide)
    have e5 : h0 = sI g4 3723 189 (nI 0) := by rw [hE0, hg4, hg3, hg2, hg1]
    have bb : ∀ {g' : AH}, Fr [3723] [] (fet hr p) g' → ∀ i, gB g' 289 i = gB hr 289 i := fun fr i => (congrFun (fr.B List.not_mem_nil) i).trans (congrFun (congrFun gB_fet 289) i)
    have aa : gA g3 284 = gA hr 284 := (a3.A List.not_mem_nil).trans (congrFun gA_fet 284)
    rw [o_152c sf (by decide), t_159 sf, if_neg (by decide), if_neg (by decide), if_neg (by decide), if_neg (by decide), if_neg (by decide), if_pos rfl, t_169 sf, rm_pop sf (by omega) (show gI (fet hr p) 3723 189 = nI (4 + 1) from g.fT) (by decide), cK_v, ← hg1, t_169_4 (a1.sh sf), rm_pop (a1.sh sf) (by omega) (show gI g1 3723 189 = nI (3 + 1) by rw [hg1, gI_s]) (by decide), cK_v, ← hg2, t_169_9 (a2.sh sf), rm_pop (a2.sh sf) (by omega) (show gI g2 3723 189 = nI (2 + 1) by rw [hg2, gI_s]) (by decide), cK_v, ← hg3, bb a1, bb a2, v2, v3, congrFun (congrFun gB_fet 289) 4, v4, t_169_18 (a3.sh sf), ck_ok (k284 (a3.sh sf)), j284 (a3.sh sf), i3264, gd_nI hu (by decide), ix_nI (by omega), aa,
      rm_pop (a3.sh sf) (by omega) (show gI g3 3723 189 = nI (1 + 1) by rw [hg3, gI_s]) (by decide), cK_v, ← hg4, bb a3, v1, t_169_26 (a4.sh sf), rm_pop (a4.sh sf) (by omega) (show gI g4 3723 189 = nI (0 + 1) by rw [hg4, gI_s]) (by decide), cK_v, ← e5, bb a4, v0]
  rw [t_169_36 s0, ck_ok (k284 s0), j284 s0, i3264, gd_nI ht (by decide), ix_nI (by omega), eA] at eR
  have dead : ∀ {e : Nat} {w : Vs → AH → Option Ot}, 1 ≤ e ∧ e ≤ 8 → (∀ h', Sh h' → w [] h' = some (none, h')) → (E (kn c 8 + 20) 152 [.ref 189, .int (nI 34), .int y] (fet hr p) = cK (cK (cK (E (kn c 8 + 17) 161 [.ref 189, .int (nI e)] h0) w []) (Q (kn c 8 + 18) 159 168 [some (.ref 189), some (.int (nI 34)), some (.int y), none, none, none, none, none, none]) []) (Q (kn c 8 + 19) 152 27 [some (.ref 189), some (.int (nI 34)), some (.int y)]) []) → ∀ {v : Vs → AH → Option Ot}, (∀ h', Sh h' → v [] h' = some (none, h')) → StO c (cK (E (n + 1) 365 [.ref 175, .int (nI e)] hc) v []) hc hr D (p + 1) k := fun {e w} he hw eq {v} hv => by
    rw [rm_refuse s0 (by omega) c0, cK_n, hw _ s0.sI, cK_n, t_159_168 s0.sI, t_159_202 s0.sI, cK_n, t_152_27 s0.sI, t_152_65 s0.sI] at eq
    obtain ⟨hc4, z1, z2, z3⟩ := Dd.op K g h4 A ⟨_, eq, ff.trans (Fr.rfl.sI (by decide)), gI_s⟩ he (Fr.rfl : Fr [1545] [] hc hc) (n := n + 1) (by omega)
    rw [z1, cK_n, hv _ z3.shC]
    exact StO.dd rfl (stp1.of z2 (by decide)) z3
  obtain ⟨kt, ft, zt, X⟩ := g.1.tr ht
  obtain ⟨ku, fu, zu, Y⟩ := g.1.tr hu
  have X2 := X.2.1
  have Y2 := Y.2.1
  have u55 : ∀ h', Sh h' → Q (kn c 8 + 17) 169 55 [some (.ref 189), none, none, none, none, none, none, none, none, none, none, none, none] [] h' = some (none, h') := fun h' s' => t_169_55 s' _ _ _ _ _ _ _ _ _ _ _ _ _
  have u139 : ∀ h', Sh h' → Q (n + 1) 338 139 [some (.ref 175), none, none, none, none, none, none, none, none, none] [] h' = some (none, h') := fun h' s' => by rw [t_338_139 s', t_338_255 s']
  have u186 : ∀ h', Sh h' → Q (n + 1) 338 186 [some (.ref 175), none, none, none, none, none, none, none, none, none] [] h' = some (none, h') := fun h' s' => by rw [t_338_186 s', t_338_255 s']
  have u218 : ∀ h', Sh h' → Q (n + 1) 338 218 [some (.ref 175), none, none, none, none, none, none, none, none, none] [] h' = some (none, h') := fun h' s' => by rw [t_338_218 s', t_338_255 s']
  rw [t_338_111 s, if_neg (by decide), gd_nI ht (by decide), ix_nI (by omega), X.1]
  rcases X.2.2.1 with ⟨k0, r1⟩ | ⟨qt, k1, -, r1, hqt, r2, r3, r4⟩
  · rw [r1, if_pos (by decide)] at eR
    rw [k0, if_pos rfl]
    exact dead (by decide) u55 eR u139
  rw [r1, if_neg (nI_nlt (by omega) (by omega))] at eR
  rw [if_neg (fun w => absurd ((nI_eq (by omega) (by decide)).mp w) (by omega)), gd_nI hu (by decide), ix_nI (by omega), Y.1]
  rcases Y.2.2.1 with ⟨k0, y1⟩ | ⟨qu, j1, -, y1, hqu, y2, y3, y4⟩
  · rw [y1, if_pos (by decide)] at eR
    rw [k0, if_pos rfl]
    exact dead (by decide) u55 eR u139
  have z5 : gA h0 285 = gA hr 285 := f0.A List.not_mem_nil
  have z6 : gA h0 286 = gA hr 286 := f0.A List.not_mem_nil
  have z7 : gA h0 287 = gA hr 287 := f0.A List.not_mem_nil
  rw [y1, if_neg (nI_nlt (by omega) (by omega)), gd_nI hqt (by decide), ix_nI (by omega), z5, r2, r_164 s0 (by omega) X2, cK_v, t_169_66 s0] at eR
  rw [if_neg (fun w => absurd ((nI_eq (by omega) (by decide)).mp w) (by omega)), gd_nI ht (by decide), gd_nI hu (by decide)]
  -- alike
  have al : (if (if 9 ≤ kt then 1 else 0) = 0 then (if kt = ku then 1 else 0) else (if 9 ≤ ku then 1 else 0)) = (if kt = ku ∨ 9 ≤ kt ∧ 9 ≤ ku then 1 else 0) := by
    (repeat' split) <;> omega
  have eR2 : E (kn c 8 + 20) 152 [.ref 189, .int (nI 34), .int y] (fet hr p) = cK (cK (Q (kn c 8 + 17) 169 104 [some (.ref 189), some (.long lm), none, some (.long lb), none, some (.int (nI qu)), some (.long la), none, some (.int (nI qt)), none, none, none, none] [.int (nI (if kt = ku ∨ 9 ≤ kt ∧ 9 ≤ ku then 1 else 0))] h0) (Q (kn c 8 + 18) 159 168 [some (.ref 189), some (.int (nI 34)), some (.int y), none, none, none, none, none, none]) []) (Q (kn c 8 + 19) 152 27 [some (.ref 189), some (.int (nI 34)), some (.int y)]) [] := by
    rw [eR, ← al]
    by_cases k9 : 9 ≤ kt
    · rw [if_pos k9, if_neg (by decide), if_neg (by decide), gd_nI hqu (by decide), ix_nI (by omega), z5, y2, r_164 s0 (by omega) Y2, cK_v, t_169_79 s0]
    · rw [if_neg k9, if_pos rfl, if_pos rfl, gd_nI hqt (by decide), gd_nI hqu (by decide), ix_nI (by omega), ix_nI (by omega), z5, r2, y2]
      by_cases e : kt = ku
      · rw [if_pos (by rw [e]), if_pos e]
      · rw [if_neg (fun w => e ((nI_eq (by omega) (by omega)).mp w)), if_neg e]
  rw [t_169_104 s0] at eR2
  by_cases ak : kt = ku ∨ 9 ≤ kt ∧ 9 ≤ ku
  case neg =>
    rw [if_neg ak, if_pos rfl] at eR2
    have e186 : (if nI kt = nI ku then cK (E (n + 1) 371 [.ref 175, .int (nI t), .long la, .long lm] hc) (Q (n + 1) 338 197 [some (.ref 175), none, some (.int (nI t)), some (.long la), none, some (.int (nI u)), some (.long lb), none, some (.long lm), none]) [] else gd (nI t) 12 <| if nI kt < nI 9 then cK (E (n + 1) 365 [.ref 175, .int (nI 2)] hc) (Q (n + 1) 338 186 [some (.ref 175), none, none, none, none, none, none, none, none, none]) [] else gd (nI u) 12 <| if nI ku < nI 9 then cK (E (n + 1) 365 [.ref 175, .int (nI 2)] hc) (Q (n + 1) 338 186 [some (.ref 175), none, none, none, none, none, none, none, none, none]) [] else cK (E (n + 1) 371 [.ref 175, .int (nI t), .long la, .long lm] hc) (Q (n + 1) 338 197 [some (.ref 175), none, some (.int (nI t)), some (.long la), none, some (.int (nI u)), some (.long lb), none, some (.long lm), none]) []) = cK (E (n + 1) 365 [.ref 175, .int (nI 2)] hc) (Q (n + 1) 338 186 [some (.ref 175), none, none, none, none, none, none, none, none, none]) [] := by
      rw [if_neg (fun w => ak (Or.inl ((nI_eq (by omega) (by omega)).mp w))), gd_nI ht (by decide)]
      by_cases k9 : kt < 9
      · rw [if_pos (nI_lt k9 (by decide))]
      · rw [if_neg (nI_nlt (by omega) (by omega)), gd_nI hu (by decide), if_pos (nI_lt (by omega) (by decide))]
    rw [e186]
    exact dead (by decide) (fun h' s' => t_169_116 s' _ _ _ _ _ _ _ _ _ _ _ _ _) eR2 u186
  rw [if_pos ak, if_neg (by decide)] at eR2
  have eC : (if nI kt = nI ku then cK (E (n + 1) 371 [.ref 175, .int (nI t), .long la, .long lm] hc) (Q (n + 1) 338 197 [some (.ref 175), none, some (.int (nI t)), some (.long la), none, some (.int (nI u)), some (.long lb), none, some (.long lm), none]) [] else gd (nI t) 12 <| if nI kt < nI 9 then cK (E (n + 1) 365 [.ref 175, .int (nI 2)] hc) (Q (n + 1) 338 186 [some (.ref 175), none, none, none, none, none, none, none, none, none]) [] else gd (nI u) 12 <| if nI ku < nI 9 then cK (E (n + 1) 365 [.ref 175, .int (nI 2)] hc) (Q (n + 1) 338 186 [some (.ref 175), none, none, none, none, none, none, none, none, none]) [] else cK (E (n + 1) 371 [.ref 175, .int (nI t), .long la, .long lm] hc) (Q (n + 1) 338 197 [some (.ref 175), none, some (.int (nI t)), some (.long la), none, some (.int (nI u)), some (.long lb), none, some (.long lm), none]) []) = cK (E (n + 1) 371 [.ref 175, .int (nI t), .long la, .long lm] hc) (Q (n + 1) 338 197 [some (.ref 175), none, some (.int (nI t)), some (.long la), none, some (.int (nI u)), some (.long lb), none, some (.long lm), none]) [] := by
    by_cases e : kt = ku
    · rw [if_pos (by rw [e])]
    · have k9 := ak.resolve_left e
      rw [if_neg (fun w => e ((nI_eq (by omega) (by omega)).mp w)), gd_nI ht (by decide), if_neg (nI_nlt (by omega) (by omega)), gd_nI hu (by decide), if_neg (nI_nlt (by omega) (by omega))]
  rw [eC]
  have hzt : zt ≤ 2000 := by have := X.2.2.2.2.1; omega
  have hzu : zu ≤ 2000 := by have := Y.2.2.2.2.1; omega
  have ct := c_371 (n := n) (la := la) (lm := lm) s ht (X.2.2.2.1 (by omega)).2 hzt
  have cu := c_371 (n := n) (la := lb) (lm := lm) s hu (Y.2.2.2.1 (by omega)).2 hzu
  have rt := hp_r (la := la) (lm := lm) hzt
  have ru := hp_r (la := lb) (lm := lm) hzu
  have q180 : Q (kn c 8 + 17) 169 180 [some (.ref 189), some (.long lm), none, some (.long lb), none, some (.int (nI qu)), some (.long la), none, some (.int (nI qt)), none, none, none, none] [.int (nI 0)] h0 = cK (E (kn c 8 + 17) 161 [.ref 189, .int (nI 3)] h0) (Q (kn c 8 + 17) 169 192 [some (.ref 189), some (.long lm), none, some (.long lb), none, some (.int (nI qu)), some (.long la), none, some (.int (nI qt)), none, some (.int (nI 0)), none, none]) [] := by
    rw [t_169_180 s0, if_pos rfl]
  have u192 : ∀ h', Sh h' → Q (kn c 8 + 17) 169 192 [some (.ref 189), some (.long lm), none, some (.long lb), none, some (.int (nI qu)), some (.long la), none, some (.int (nI qt)), none, some (.int (nI 0)), none, none] [] h' = some (none, h') := fun h' s' => t_169_192 s' _ _ _ _ _ _ _ _ _ _ _ _ _
  simp only [c_lt, c_gt] at eR2
  rw [gd_nI hqt (by decide), gd_nI hqu (by decide), ix_nI (by omega), ix_nI (by omega), z7, r4, y4] at eR2
  by_cases hh : hpV zt la lm ∧ hpV zu lb lm
  case neg =>
    have eR3 : E (kn c 8 + 20) 152 [.ref 189, .int (nI 34), .int y] (fet hr p) = cK (cK (Q (kn c 8 + 17) 169 180 [some (.ref 189), some (.long lm), none, some (.long lb), none, some (.int (nI qu)), some (.long la), none, some (.int (nI qt)), none, none, none, none] [.int (nI 0)] h0) (Q (kn c 8 + 18) 159 168 [some (.ref 189), some (.int (nI 34)), some (.int y), none, none, none, none, none, none]) []) (Q (kn c 8 + 19) 152 27 [some (.ref 189), some (.int (nI 34)), some (.int y)]) [] := by
      rw [eR2]
      by_cases b1 : lm < 0
      · rw [if_pos b1]
      rw [if_neg b1]
      by_cases b2 : la < 0
      · rw [if_pos b2]
      rw [if_neg b2]
      by_cases b3 : lb < 0
      · rw [if_pos b3]
      rw [if_neg b3]
      by_cases b4 : (2000 : Int64) < lm
      · rw [if_pos b4]
      rw [if_neg b4]
      by_cases b5 : (nI zt).toInt64 - lm < la
      · rw [if_pos b5]
      rw [if_neg b5]
      by_cases b6 : (nI zu).toInt64 - lm < lb
      · rw [if_pos b6]
      exact absurd ⟨rt.mp ⟨b1, b2, b4, b5⟩, ru.mp ⟨b1, b3, b4, b6⟩⟩ hh
    rw [q180] at eR3
    have e197 : cK (E (n + 1) 371 [.ref 175, .int (nI t), .long la, .long lm] hc) (Q (n + 1) 338 197 [some (.ref 175), none, some (.int (nI t)), some (.long la), none, some (.int (nI u)), some (.long lb), none, some (.long lm), none]) [] = cK (E (n + 1) 365 [.ref 175, .int (nI 3)] hc) (Q (n + 1) 338 218 [some (.ref 175), none, none, none, none, none, none, none, none, none]) [] := by
      by_cases w1 : hpV zt la lm
      · rw [ct.1 w1, cK_v, t_338_197 s, if_neg (by decide), cu.2 (fun w2 => hh ⟨w1, w2⟩), cK_v, t_338_210 s, if_pos rfl]
      · rw [ct.2 w1, cK_v, t_338_197 s, if_pos rfl]
    rw [e197]
    exact dead (by decide) u192 eR3 u218
  obtain ⟨⟨m', a, em, ea, la'⟩, ⟨m2, b, em2, eb, lb'⟩⟩ := id hh
  obtain ⟨b1, b2, b4, b5⟩ := rt.mpr hh.1
  obtain ⟨-, b3, -, b6⟩ := ru.mpr hh.2
  have mm : m2 = m' := by
    rw [em] at em2
    exact ((lN_eq (by omega) (by omega)).mp em2).symm
  subst mm
  rw [if_neg b1, if_neg b2, if_neg b3, if_neg b4, if_neg b5, if_neg b6, t_169_180 s0, if_neg (by decide), em, lN_32] at eR2
  rw [ct.1 hh.1, cK_v, t_338_197 s, if_neg (by decide), cu.1 hh.2, cK_v, t_338_210 s, if_neg (by decide), gd_nI ht (by decide), gd_nI hu (by decide), gd_nI hu (by decide), ix_nI (by omega), ix_nI (by omega), (X.2.2.2.1 (by omega)).1, (Y.2.2.2.1 (by omega)).1, Y.1, ea, eb, em, lN_32, lN_32, lN_32, nI_add, nI_add]
  -- the values
  obtain ⟨W, hW⟩ : ∃ W : Nat → Int64, W = fun i => gB hc 182 (ft + a + i) := ⟨_, rfl⟩
  have lX := X.2.2.2.2.1
  have lY := Y.2.2.2.2.1
  have hWc : ∀ i, i < m2 → W i = gB hc 182 (ft + a + i) := fun i hi => by rw [hW]
  have hWr : ∀ i, i < m2 → W i = gB h0 288 (ft + a + i) := fun i hi => by rw [hW]; exact r0.cell (by omega)
  have hWx : ∀ i, i < m2 → 9 ≤ ku → ∃ x, itv (kn c 6) x ∧ W i = x.toInt64 := fun i hi h9 => by
    obtain ⟨x, x1, x2⟩ := X.2.2.2.2.2 (by rcases ak with e | e <;> omega) (a + i) (by omega)
    exact ⟨x, x1, by rw [hW]; show gB hc 182 (ft + a + i) = _; rw [Nat.add_assoc]; exact x2⟩
  obtain ⟨h1, d1, d2, d3⟩ := r_tk (n := kn c 8 + 17) (S := ft + a) (m' := m2) (qt := qt) (lt := lb) (x5 := nI qu) (lf := la) (by omega) hqt (ft := ft) (by rw [ea, lN_32, nI_add]) m2 0 h0 (by omega) s0 (by rw [z6]; exact r3)
  have s1 := d2.sh s0
  obtain ⟨J, h2, e1, e2, e3, e4, e5, e6⟩ := r_lyd (n := kn c 8 + 17) (W := W) (B := fu + b) (m' := m2) (kk := ku) (qu := qu) (fu := fu) (lt := lb) q g.1 K ⟨j1, Y2⟩ (by omega) hqu (by rw [eb, lN_32, nI_add]) hWx (by omega) m2 0 h1 (by omega) ((f0.wk (fun _ q => q) (fun _ q => absurd q List.not_mem_nil)).trans (d2.wk (fun _ q => absurd q List.not_mem_nil) (by decide))) (by rw [d2.I List.not_mem_nil]; exact c0) (by rw [d2.A (by decide), z5]; exact y2) (by rw [d2.A (by decide), z6]; exact y3) (fun i hi => by rw [d3, if_pos ⟨Nat.zero_le _, hi⟩, hWr i hi]) (fun i hi => absurd hi (Nat.not_lt_zero _))
  have s2 := e4.sh s1
  rw [d1, e3, cK_n, t_159_168 s2, t_159_202 s2, cK_n, t_152_27 s2, t_152_65 s2] at eR2
  have fo : Fr [3723, 3724, 3733] [288, 294] hr h2 := (f0.wk (fun _ q => q) (fun _ q => absurd q List.not_mem_nil)).trans ((d2.wk (fun _ q => absurd q List.not_mem_nil) (by decide)).trans (e4.wk (by decide) (by decide)))
  -- the heap of the component
  obtain ⟨hJ, hJE⟩ : ∃ hJ, hJ = cpB hc 182 (ft + a) 182 (fu + b) J := ⟨_, rfl⟩
  have fJ : Fr [] [182] hc hJ := by
    rw [hJE]
    exact ⟨rfl, rfl, rfl, rfl, rfl, fun _ _ => rfl, fun _ _ => rfl, fun _ _ => rfl, fun k hk => up1_x (fun e => hk (by rw [e]; exact List.mem_singleton.mpr rfl))⟩
  have sJ := fJ.sh s
  have eJ : ∀ i, gB hJ 182 i = if fu + b ≤ i ∧ i < fu + b + J then gB hc 182 (ft + a + (i - (fu + b))) else gB hc 182 i := fun i => by rw [hJE]; exact gB_cp
  have Jm := e1.1
  have rJ : CRm c hJ h2 := by
    obtain ⟨p1, p2, ⟨s', G', Cp', p3⟩, ty, a1, a2, p1', p2', mk, rf, m0, mm⟩ := g.1
    refine ⟨p1.trans ((fJ.wk (fun _ q => absurd q List.not_mem_nil) (by decide) : Fr KMc XMc hc hJ).gfm (by decide) (by decide)), p2.trans (fo.wk (by decide) (by decide)), ⟨s', G', Cp', (p3.frC (fJ.wk (fun _ q => absurd q List.not_mem_nil) (by decide))).frR (fo.wk (by decide) (by decide))⟩, ty, a1, a2, p1', p2', mk, rf, m0, ?_⟩
    have tx := mm.tyx ht (by omega : kt ≠ 0) X
    have tyu := mm.tyx hu (by omega : ku ≠ 0) Y
    have f01 : Fr [3723, 3724, 3733] [294] hr h1 := (f0.wk (fun _ q => q) (fun _ q => absurd q List.not_mem_nil)).trans (d2.wk (fun _ q => absurd q List.not_mem_nil) (fun _ q => q))
    have b88 : gB h1 288 = gB h0 288 := d2.B (by decide)
    refine (mm.frR f01 (by decide) (by decide)).slide (J := J) (F := ft + a) (B := fu + b) (by have := tx.2; omega) (by have := tyu.2; omega) (fun i hi ty1 => ?_) fJ e4 eJ (fun i => ?_)
    · rw [Nat.add_assoc, tyu.1 (b + i) (by omega)] at ty1
      obtain ⟨x, x1, x2⟩ := hWx i (by omega) (of_decide_eq_true ty1)
      exact ⟨x, x1, by rw [← hWc i (by omega)]; exact x2⟩
    · rw [e6, Nat.add_zero]
      by_cases z : fu + b ≤ i ∧ i < fu + b + J
      · rw [if_pos z, if_pos z, hWr (i - (fu + b)) (by omega), b88]
      · rw [if_neg z, if_neg z]
  have gJ : Gs c D 0 (p + 1) k hJ h2 := ⟨rJ, by rw [fJ.I List.not_mem_nil]; exact g.2.1, by rw [fJ.I List.not_mem_nil]; exact g.2.2.1, by rw [e4.I (by decide), d2.I List.not_mem_nil]; exact q0, by rw [e4.I (by decide), d2.I List.not_mem_nil]; exact t0, by rw [fo.I (by decide)]; exact g.2.2.2.2.2.1, by rw [fo.I (by decide)]; exact g.2.2.2.2.2.2⟩
  have stJ : stp1 hc hJ := stp1.of fJ List.not_mem_nil
  have gCs : gC hc 182 = 61 := ShC s (by decide)
  have gKs : gK hc 182 = 2000 := ShK s (by decide)
  have u69 : ∀ h', Sh h' → Q n 372 69 [none, none, none, none, none, none] [] h' = some (none, h') := fun h' s' => t_372_69 s'
  have nn : ∀ i : Nat, i < 2 ^ 31 → ¬ nI i < 0 := fun i hi => show ¬ nI i < nI 0 from nI_nlt (by omega) hi
  -- the copy, as the component does it
  have full : ∀ {A0 : Option Ot}, J = m2 → A0 = Q n 372 69 [none, none, none, none, none, none] [] hJ → StO c (cK A0 (Q (n + 1) 338 255 [none, none, none, none, none, none, none, none, none, none]) []) hc hr D (p + 1) k := fun {A0} eJm e0 => by
    rw [e0, u69 _ sJ, cK_n, t_338_255 sJ]
    rw [if_neg (by omega)] at e5
    exact StO.go rfl stJ (LP_ok K g h4 A eR2 s2 e5) gJ (HF.of fo (by decide))
  have part : ∀ {A0 : Option Ot}, J < m2 → A0 = cK (E n 365 [.ref 175, .int (nI 5)] hJ) (Q n 372 69 [none, none, none, none, none, none]) [] → StO c (cK A0 (Q (n + 1) 338 255 [none, none, none, none, none, none, none, none, none, none]) []) hc hr D (p + 1) k := fun {A0} eJm e0 => by
    rw [if_pos eJm] at e5
    obtain ⟨hc4, y1, y2, y3⟩ := Dd.rf (h1 := h2) (u := some (.int (nI (4400 * kn c 5 + p)))) (hc := hJ) (hr := hr) (D := D) (e := 5) (n := n) K rJ (by decide) e5 gJ.2.2.2.2.2.2 gJ.2.2.2.2.2.1 (HF.of fo (by decide)) (fun z => absurd z (by decide)) (by
      rw [LP_go g.1 K g.2.2.2.2.2.2 g.2.2.2.1 h4 A]
      show cK (E (kn c 8 + 20) 152 [.ref 189, .int (nI 34), .int y] (fet hr p)) _ [] = _
      rw [eR2]) (by omega)
    rw [e0, y1, cK_n, u69 _ y3.shC, cK_n, t_338_255 y3.shC]
    exact StO.dd rfl (stJ.tr (stp1.of y2 (by decide))) y3
  have ca : ∀ i, i ≤ m2 → (gC hc 182 = 61 ∧ gC hc 182 = 61 ∧ 100 ≤ 182 ∧ 100 ≤ 182 ∧ 0 ≤ 20) ∧ ¬ (nI i < 0 ∨ nI (fu + b) < 0 ∨ nI (ft + a) < 0) ∧ (ix (nI (ft + a)) + ix (nI i) ≤ gK hc 182 ∧ ix (nI (fu + b)) + ix (nI i) ≤ gK hc 182) := fun i hi => by
    refine ⟨⟨gCs, gCs, by decide, by decide, by decide⟩, ?_, ?_⟩
    · rintro (w | w | w)
      · exact nn i (by omega) w
      · exact nn _ (by omega) w
      · exact nn _ (by omega) w
    · rw [gKs, ix_nI (by omega), ix_nI (by omega), ix_nI (by omega)]; omega
  rw [t_372 s]
  by_cases k9 : 10 ≤ ku
  · rw [if_pos (nI_lt (by omega) (by omega))]
    obtain ⟨J', i1, i2⟩ := c_slp (n := n) (W := W) (kk := ku) (F := ft + a) (B := fu + b) (m' := m2) q Wb ⟨k9, Y2⟩ (by omega) (fun i hi => ⟨hWc i hi, hWx i hi (by omega)⟩) (by omega) m2 0 (by omega) (fun i hi => absurd hi (Nat.not_lt_zero _))
    obtain rfl := fstN_u i1 e1
    rw [i2]
    by_cases jm : J' < m2
    · obtain ⟨a1, a2, a3⟩ := ca J' (by omega)
      rw [if_pos jm]
      refine part jm ?_
      rw [t_372_34 s, if_pos rfl, if_pos a1, if_neg a2, if_pos a3, if_pos (nI_lt jm (by omega)), ix_nI (by omega), ix_nI (by omega), ix_nI (by omega), ← hJE]
    · obtain rfl : J' = m2 := by omega
      obtain ⟨a1, a2, a3⟩ := ca J' (by omega)
      rw [if_neg jm]
      refine full rfl ?_
      rw [t_372_13 s, if_neg (nI_nlt (by omega) (by omega)), if_pos a1, if_neg a2, if_pos a3, if_neg (nI_nlt (by omega) (by omega)), ix_nI (by omega), ix_nI (by omega), ix_nI (by omega), ← hJE]
  · have Jall : J = m2 := by
      by_cases w : J < m2
      · have := e1.2.2 w
        exfalso
        unfold fitW at this
        by_cases k8 : ku < 9
        · rw [if_pos k8] at this; cases this
        · rw [if_neg k8] at this
          obtain rfl : ku = 9 := by omega
          unfold fitV at this
          (repeat' split at this) <;> simp_all
      · omega
    obtain ⟨a1, a2, a3⟩ := ca m2 (Nat.le_refl _)
    have a2' : ¬ (nI m2 < 0 ∨ nI (fu + b) < 0 ∨ nI (ft + a) < 0) := a2
    refine full Jall ?_
    rw [if_neg (nI_nlt (by omega) (by omega)), if_pos a1, if_neg a2', if_pos a3, if_neg (nI_nlt (Nat.le_refl _) (by omega)), ix_nI (by omega), ix_nI (by omega), ix_nI (by omega), ← Jall, ← hJE]
end SLK
