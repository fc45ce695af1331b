/-! ===== THE LAW: the calls that only ask ===== -/
section JAS
variable {d : Nat} {h : AH} {P Q Z : Nat}
/-- what a call needs of the state between two calls -/
def JBk (h : AH) (bk : Bk) (s : St) (b v : Nat) (G Cp : Nat → Nat → Nat) (t : Tp) : Prop := WX bk ∧ WS bk s ∧ capB bk s Cp ∧ v ≤ 1 ∧ CSt h b bk s G Cp ∧ CS4 h s ∧ CS5 h s G ∧ CT h t ∧ gI h 3597 189 = nI v ∧ RB h v bk ∧ RS h s ∧ RT h t ∧ MRe h h (zN s 2)
theorem JI.b (i : JI h P Q Z) : ∃ bk s b v G Cp t, JBk h bk s b v G Cp t := by
  obtain ⟨b, bk, s, G, Cp, v, t, fd, ff, md, sd, x0, y0, hp, u, i1, i2, i3, i4, -⟩ := i
  exact ⟨bk, s, b, v, G, Cp, t, i1.1, i1.2.1, i1.2.2.1, i1.2.2.2.1, i2.1, i2.2.2.1, i2.2.2.2.1, i2.2.2.2.2.1, i3.2.1, i3.2.2.1, i3.2.2.2.1, i3.2.2.2.2.2.1, i4⟩
theorem j_found (i : JI h P Q Z) (x : Int32) : JO d 6 79 [.int x] h P Q Z := by
  obtain ⟨b, bk, s, G, Cp, v, t, fd, ff, md, sd, x0, y0, hp, u, i1, i2, i3, -⟩ := id i
  exact i.o (c_found (d := d + 339) i2.1.1 i2.2.2.2.2.2.2.1 x) (r_found (d := d + 339) i3.1 i3.2.2.2.2.2.2.2.2.2.1 x)
theorem j_mended (i : JI h P Q Z) : JO d 8 96 [] h P Q Z := by
  obtain ⟨b, bk, s, G, Cp, v, t, fd, ff, md, sd, x0, y0, hp, u, i1, i2, i3, -⟩ := id i
  exact i.o (c_mended (d := d + 339) i2.1.1 i2.2.2.2.2.2.2.1) (r_mended (d := d + 339) i3.1 i3.2.2.2.2.2.2.2.2.2.1)
theorem j_shelf (i : JI h P Q Z) (o k : Int32) : JO d 16 182 [.int o, .int k] h P Q Z := by
  obtain ⟨bk, s, b, v, G, Cp, t, wx, w, cb, hv, C, C4, C5, T, hN, B, R, RT', m⟩ := i.b
  exact i.o (c_shelf (d := d + 335) C.1 wx.1 w C.2.2.1 C.2.2.2.1 C.2.2.2.2.1 C.2.2.2.2.2 o k) (r_shelf (d := d + 338) C.1 wx.1 w hv hN B R.2.1 o k)
theorem j_bag (i : JI h P Q Z) (o k : Int32) : JO d 18 183 [.int o, .int k] h P Q Z := by
  obtain ⟨bk, s, b, v, G, Cp, t, wx, w, cb, hv, C, C4, C5, T, hN, B, R, RT', m⟩ := i.b
  exact i.o (c_bag (d := d + 335) C.1 wx.1 w C.2.2.1 C.2.2.2.1 C.2.2.2.2.1 C.2.2.2.2.2 o k) (r_bag (d := d + 339) C.1 wx.1 w hv hN B R.2.1 o k)
theorem j_count (i : JI h P Q Z) (x : Int32) : JO d 19 184 [.int x] h P Q Z := by
  obtain ⟨bk, s, b, v, G, Cp, t, wx, w, cb, hv, C, C4, C5, T, hN, B, R, RT', ⟨ty, a2, p, p2, mk, rf, m⟩⟩ := i.b
  obtain ⟨a1, a3, a4, a5⟩ := m.2.2.2.2.2.1
  obtain ⟨n1, n2, n3, -⟩ := m.2.2.2.2.1
  exact i.o (c_count (d := d + 335) wx.1 C C4 w n2 a4 T.1 x) (r_count (d := d + 339) wx.1 hv C.1 hN B R w n3 a5 RT'.1 x)
/-- the calls that may throw: not where they throw -/
theorem j_price (i : JI h P Q Z) (x : Int32) : ∃ bk s b v G Cp t, JBk h bk s b v G Cp t ∧ ∀ sv f r, sv < bk 0 2 → f < bk 0 0 → r < bk 0 0 → JO d 20 80 [.int (nI sv), .int x, .int (nI f), .int (nI r)] h P Q Z := by
  obtain ⟨bk, s, b, v, G, Cp, t, q⟩ := i.b
  obtain ⟨wx, w, cb, hv, C, C4, C5, T, hN, B, R, RT', m⟩ := id q
  exact ⟨bk, s, b, v, G, Cp, t, q, fun sv f r h1 h2 h3 => i.o (c_price (d := d + 334) C.1 wx.1 C.2.2.1 C.2.2.2.1 h1 h2 h3 x) (r_price (d := d + 337) C.1 wx.1 hv hN B h1 h2 h3 x)⟩
theorem j_item (i : JI h P Q Z) : ∃ bk s b v G Cp t, JBk h bk s b v G Cp t ∧ ∀ j k, j < zN s 2 → k ≤ 10 → JO d 28 181 [.int (nI j), .int (nI k)] h P Q Z := by
  obtain ⟨bk, s, b, v, G, Cp, t, q⟩ := i.b
  obtain ⟨wx, w, cb, hv, C, C4, C5, T, hN, B, R, RT', m⟩ := id q
  exact ⟨bk, s, b, v, G, Cp, t, q, fun j k h1 h2 => i.o (c_item (d := d + 335) C w h1 h2) (r_item (d := d + 339) C.1 w R.1 h1 h2)⟩
theorem j_held (i : JI h P Q Z) (k : Int32) : (∀ j, hv k 4 = some j → JO d 25 178 [.int k] h P Q Z) ∧ (hv k 4 = none → E (d + 340) 178 [.ref 189, .int k] h = some (some (.int (nI 0)), sI h 3586 189 (nI 1))) := by
  obtain ⟨bk, s, b, v, G, Cp, t, wx, w, cb, hv', C, C4, C5, T, hN, B, R, RT', m⟩ := i.b
  obtain ⟨a1, a2⟩ := held_b (d := d + 339) C.1 C.1 m k
  exact ⟨fun j e => by obtain ⟨x, x1, x2⟩ := a1 j e; exact i.o x1 x2, a2⟩
theorem j_tray (i : JI h P Q Z) (r k : Int32) : (∀ j, hv r 12 = some j → JO d 26 179 [.int r, .int k] h P Q Z) ∧ (hv r 12 = none → E (d + 340) 179 [.ref 189, .int r, .int k] h = some (some (.int (nI 0)), sI h 3586 189 (nI 1))) := by
  obtain ⟨bk, s, b, v, G, Cp, t, wx, w, cb, hv', C, C4, C5, T, hN, B, R, RT', m⟩ := i.b
  obtain ⟨a1, a2⟩ := tray_b (d := d + 338) C.1 C.1 m r k
  exact ⟨fun j e => by obtain ⟨x, x1, x2⟩ := a1 j e; exact i.o x1 x2, a2⟩
end JAS
