/-! the relation between the desk and the reference -/
abbrev RW : Type := Nat → Nat → Int32
abbrev PVT : Type := (Option Nat × Int32 × Int32 × (Nat → Int32)) × Nat
/-- how many camps, rapids, landings, trips, applicants -/
abbrev CT : Type := Nat × Nat × Nat × Nat × Nat
def rB (D : RW) (n : Nat → Int32) : Prop := ∃ e s : Nat, (1 ≤ e ∧ e ≤ 250) ∧ (1 ≤ s ∧ s ≤ 9) ∧ D 2 0 = nI e ∧ n 0 = nI e ∧ D 2 1 = nI s ∧ n 1 = nI s
def rC (D : RW) (n : Nat → Int32) (nc : Nat) : Prop := nc ≤ 14 ∧ D 3 0 = nI nc ∧ n 2 = nI nc ∧ ∀ c, c < nc → ∃ m b : Nat, (1 ≤ m ∧ m ≤ 249) ∧ b ≤ 1 ∧ D 5 c = nI m ∧ n (8 + 2 * c) = nI m ∧ D 6 c = nI b ∧ n (8 + 2 * c + 1) = nI b
def rP (D : RW) (n : Nat → Int32) (nr : Nat) : Prop := nr ≤ 10 ∧ D 3 1 = nI nr ∧ n 3 = nI nr ∧ ∀ r, r < nr → ∃ m a b : Nat, (1 ≤ m ∧ m ≤ 249) ∧ (a ≤ b ∧ b ≤ 999) ∧ D 7 r = nI m ∧ n (36 + 3 * r) = nI m ∧ D 8 r = nI a ∧ n (36 + 3 * r + 1) = nI a ∧ D 9 r = nI b ∧ n (36 + 3 * r + 2) = nI b
def rL (D : RW) (n : Nat → Int32) (nl : Nat) : Prop := nl ≤ 8 ∧ D 3 2 = nI nl ∧ n 4 = nI nl ∧ ∀ l, l < nl → ∃ m : Nat, m ≤ 250 ∧ D 10 l = nI m ∧ n (66 + l) = nI m
def rW (D : RW) (n : Nat → Int32) : Prop := ∀ q, q < 120 → ∃ v : Nat, v ≤ 999 ∧ D 4 q = nI v ∧ n (74 + q) = nI v
/-- the numbers of a trip -/
def tN (D : RW) (t : Nat) : Prop := ∃ k l p f o : Nat, k ≤ 3 ∧ l ≤ 29 ∧ (1 ≤ p ∧ p ≤ 60) ∧ (1 ≤ f ∧ f ≤ 15) ∧ o ≤ 2 ∧ D 13 (35 * t + 0) = nI k ∧ D 13 (35 * t + 1) = nI l ∧ D 13 (35 * t + 2) = nI p ∧ D 13 (35 * t + 3) = nI f ∧ D 13 (35 * t + 4) = nI o ∧ ∀ u, u < t → ∀ d, d < 30 → D 13 (35 * u + (5 + d)) = D 13 (35 * t + (5 + d)) → D 13 (35 * t + (5 + d)) = -1
def rT (D : RW) (n : Nat → Int32) (nt nc : Nat) : Prop := nt ≤ 10 ∧ D 12 0 = nI nt ∧ n 5 = nI nt ∧ ∀ t, t < nt → tN D t ∧ (∀ j, j < 5 → n (194 + 5 * t + j) = D 13 (35 * t + j)) ∧ ∀ d, d < 30 → n (244 + 30 * t + d) = D 13 (35 * t + (5 + d)) ∧ (D 13 (35 * t + (5 + d)) = -1 ∨ ∃ c, c < nc ∧ D 13 (35 * t + (5 + d)) = nI c)
def rA (D : RW) (n : Nat → Int32) (na : Nat) : Prop := na ≤ 12 ∧ D 20 0 = nI na ∧ n 6 = nI na ∧ ∀ a, a < na → ∃ v : Nat, (1 ≤ v ∧ v ≤ 99) ∧ D 21 a = nI v ∧ n (544 + a) = nI v
def Rd (D : RW) (n : Nat → Int32) (C : CT) : Prop := rB D n ∧ rC D n C.1 ∧ rP D n C.2.1 ∧ rL D n C.2.2.1 ∧ rW D n ∧ rT D n C.2.2.2.1 C.1 ∧ rA D n C.2.2.2.2
/-- what may differ behind the counts -/
def Ag (D D2 : RW) (C : CT) : Prop := (∀ j, D2 2 j = D 2 j) ∧ (∀ j, D2 3 j = D 3 j) ∧ (∀ j, D2 4 j = D 4 j) ∧ (∀ j, D2 12 j = D 12 j) ∧ (∀ j, D2 20 j = D 20 j) ∧ (∀ c, c < C.1 → D2 5 c = D 5 c ∧ D2 6 c = D 6 c) ∧ (∀ r, r < C.2.1 → D2 7 r = D 7 r ∧ D2 8 r = D 8 r ∧ D2 9 r = D 9 r) ∧ (∀ l, l < C.2.2.1 → D2 10 l = D 10 l) ∧ (∀ t j, t < C.2.2.2.1 → j < 35 → D2 13 (35 * t + j) = D 13 (35 * t + j)) ∧ (∀ a, a < C.2.2.2.2 → D2 21 a = D 21 a)
def leC (A B : CT) : Prop := A.1 ≤ B.1 ∧ A.2.1 ≤ B.2.1 ∧ A.2.2.1 ≤ B.2.2.1 ∧ A.2.2.2.1 ≤ B.2.2.2.1 ∧ A.2.2.2.2 ≤ B.2.2.2.2
theorem Rd_ag {D D2 : RW} {n : Nat → Int32} {C : CT} (h : Rd D n C) (a : Ag D D2 C) : Rd D2 n C := by
  obtain ⟨⟨e, s, b1, b2, b3, b4, b5, b6⟩, ⟨c1, c2, c3, c4⟩, ⟨p1, p2, p3, p4⟩, ⟨l1, l2, l3, l4⟩, w, ⟨t1, t2, t3, t4⟩, ⟨a1, a2, a3, a4⟩⟩ := h
  obtain ⟨g2, g3, g4, g12, g20, g5, g7, g10, g13, g21⟩ := a
  refine ⟨⟨e, s, b1, b2, by rw [g2]; exact b3, b4, by rw [g2]; exact b5, b6⟩, ⟨c1, by rw [g3]; exact c2, c3, fun c hc => ?_⟩, ⟨p1, by rw [g3]; exact p2, p3, fun r hr => ?_⟩, ⟨l1, by rw [g3]; exact l2, l3, fun l hl => ?_⟩, fun q hq => ?_, ⟨t1, by rw [g12]; exact t2, t3, fun t ht => ?_⟩, ⟨a1, by rw [g20]; exact a2, a3, fun x hx => ?_⟩⟩
  · obtain ⟨m, b, h1, h2, h3, h4, h5, h6⟩ := c4 c hc
    exact ⟨m, b, h1, h2, by rw [(g5 c hc).1]; exact h3, h4, by rw [(g5 c hc).2]; exact h5, h6⟩
  · obtain ⟨m, a, b, h1, h2, h3, h4, h5, h6, h7, h8⟩ := p4 r hr
    exact ⟨m, a, b, h1, h2, by rw [(g7 r hr).1]; exact h3, h4, by rw [(g7 r hr).2.1]; exact h5, h6, by rw [(g7 r hr).2.2]; exact h7, h8⟩
  · obtain ⟨m, h1, h2, h3⟩ := l4 l hl
    exact ⟨m, h1, by rw [g10 l hl]; exact h2, h3⟩
  · obtain ⟨v, h1, h2, h3⟩ := w q hq
    exact ⟨v, h1, by rw [g4]; exact h2, h3⟩
  · obtain ⟨⟨k, l, p, f, o, h1, h2, h3, h4, h5, h6, h7, h8, h9, h10, hu⟩, h11, h12⟩ := t4 t ht
    refine ⟨⟨k, l, p, f, o, h1, h2, h3, h4, h5, ?_, ?_, ?_, ?_, ?_, fun u hut d hd => ?_⟩, fun j hj => ?_, fun d hd => ?_⟩
    · rw [g13 t 0 ht (by omega)]; exact h6
    · rw [g13 t 1 ht (by omega)]; exact h7
    · rw [g13 t 2 ht (by omega)]; exact h8
    · rw [g13 t 3 ht (by omega)]; exact h9
    · rw [g13 t 4 ht (by omega)]; exact h10
    · rw [g13 t (5 + d) ht (by omega), g13 u (5 + d) (by omega) (by omega)]; exact hu u hut d hd
    · rw [g13 t j ht (by omega)]; exact h11 j hj
    · rw [g13 t (5 + d) ht (by omega)]; exact h12 d hd
  · obtain ⟨v, h1, h2, h3⟩ := a4 x hx
    exact ⟨v, h1, by rw [g21 x hx]; exact h2, h3⟩
theorem Rd_n {D : RW} {n n2 : Nat → Int32} {C : CT} (h : Rd D n C) (e : ∀ j, j < 556 → n2 j = n j) : Rd D n2 C := by
  obtain ⟨⟨x, s, b1, b2, b3, b4, b5, b6⟩, ⟨c1, c2, c3, c4⟩, ⟨p1, p2, p3, p4⟩, ⟨l1, l2, l3, l4⟩, w, ⟨t1, t2, t3, t4⟩, ⟨a1, a2, a3, a4⟩⟩ := h
  refine ⟨⟨x, s, b1, b2, b3, by rw [e 0 (by omega)]; exact b4, b5, by rw [e 1 (by omega)]; exact b6⟩, ⟨c1, c2, by rw [e 2 (by omega)]; exact c3, fun c hc => ?_⟩, ⟨p1, p2, by rw [e 3 (by omega)]; exact p3, fun r hr => ?_⟩, ⟨l1, l2, by rw [e 4 (by omega)]; exact l3, fun l hl => ?_⟩, fun q hq => ?_, ⟨t1, t2, by rw [e 5 (by omega)]; exact t3, fun t ht => ?_⟩, ⟨a1, a2, by rw [e 6 (by omega)]; exact a3, fun y hy => ?_⟩⟩
  · obtain ⟨m, b, h1, h2, h3, h4, h5, h6⟩ := c4 c hc
    exact ⟨m, b, h1, h2, h3, by rw [e _ (by omega)]; exact h4, h5, by rw [e _ (by omega)]; exact h6⟩
  · obtain ⟨m, a, b, h1, h2, h3, h4, h5, h6, h7, h8⟩ := p4 r hr
    exact ⟨m, a, b, h1, h2, h3, by rw [e _ (by omega)]; exact h4, h5, by rw [e _ (by omega)]; exact h6, h7, by rw [e _ (by omega)]; exact h8⟩
  · obtain ⟨m, h1, h2, h3⟩ := l4 l hl
    exact ⟨m, h1, h2, by rw [e _ (by omega)]; exact h3⟩
  · obtain ⟨v, h1, h2, h3⟩ := w q hq
    exact ⟨v, h1, h2, by rw [e _ (by omega)]; exact h3⟩
  · obtain ⟨h0, h11, h12⟩ := t4 t ht
    refine ⟨h0, fun j hj => ?_, fun d hd => ?_⟩
    · rw [e _ (by omega)]; exact h11 j hj
    · rw [e _ (by omega)]; exact h12 d hd
  · obtain ⟨v, h1, h2, h3⟩ := a4 y hy
    exact ⟨v, h1, h2, by rw [e _ (by omega)]; exact h3⟩
/-- a piece brought back -/
def unp (v : PVT) (D : RW) : RW := match v.1.1 with
  | none => D
  | some r => va_up D r (va_cpy v.1.2.2.2 (D r) 0 v.1.2.1.toNatClampNeg v.1.2.2.1.toNatClampNeg)
def pOk (v : PVT) : Prop := ∃ r a m : Nat, r ∈ rowsOk ∧ v.1.1 = some r ∧ v.1.2.1 = nI a ∧ v.1.2.2.1 = nI m ∧ a + m ≤ (shq r).2 ∧ m ≤ v.2 ∧ m ≤ 350 ∧ a ≤ 350
theorem Ag_unp {D D2 : RW} {C C2 : CT} {v : PVT} (hp : pOk v) (a : Ag D D2 C) (hc : leC C2 C) : Ag (unp v D) (unp v D2) C2 := by
  obtain ⟨r, x, m, hr, h1, h2, h3, -⟩ := hp
  obtain ⟨g2, g3, g4, g12, g20, g5, g7, g10, g13, g21⟩ := a
  obtain ⟨l1, l2, l3, l4, l5⟩ := hc
  have hu : ∀ E : RW, unp v E = va_up E r (va_cpy v.1.2.2.2 (E r) 0 v.1.2.1.toNatClampNeg v.1.2.2.1.toNatClampNeg) := fun E => by unfold unp; rw [h1]
  rw [hu, hu]
  generalize v.1.2.1.toNatClampNeg = y
  generalize v.1.2.2.1.toNatClampNeg = z
  generalize v.1.2.2.2 = b
  have key : ∀ k j : Nat, D2 k j = D k j → va_up D2 r (va_cpy b (D2 r) 0 y z) k j = va_up D r (va_cpy b (D r) 0 y z) k j := by
    intro k j hk
    unfold va_up
    by_cases e : k = r
    · subst e
      rw [if_pos rfl, if_pos rfl]
      unfold va_cpy
      split
      · rfl
      · exact hk
    · rw [if_neg e, if_neg e]; exact hk
  exact ⟨fun j => key 2 j (g2 j), fun j => key 3 j (g3 j), fun j => key 4 j (g4 j), fun j => key 12 j (g12 j), fun j => key 20 j (g20 j), fun c h => ⟨key 5 c (g5 c (by omega)).1, key 6 c (g5 c (by omega)).2⟩, fun c h => ⟨key 7 c (g7 c (by omega)).1, key 8 c (g7 c (by omega)).2.1, key 9 c (g7 c (by omega)).2.2⟩, fun c h => key 10 c (g10 c (by omega)), fun t j h h2 => key 13 _ (g13 t j (by omega) h2), fun c h => key 21 c (g21 c (by omega))⟩
/-- the pieces, brought back one behind the other, against the reference's kept states -/
def Hist (V : Nat → PVT) (sn : Nat → Nat → Int32) : Nat → RW → CT → Nat → Prop
  | 0, _, _, _ => True
  | sz + 1, D, C, nx => pOk (V ((nx + 19) % 20)) ∧ ∃ C2 : CT, Rd (unp (V ((nx + 19) % 20)) D) (sn sz) C2 ∧ leC C2 C ∧ Hist V sn sz (unp (V ((nx + 19) % 20)) D) C2 ((nx + 19) % 20)
theorem Hist_ag {V : Nat → PVT} {sn : Nat → Nat → Int32} : ∀ (sz : Nat) {D D2 : RW} {C : CT} {nx : Nat}, Hist V sn sz D C nx → Ag D D2 C → Hist V sn sz D2 C nx := by
  intro sz
  induction sz with
  | zero => intros; trivial
  | succ sz ih =>
    intro D D2 C nx h a
    obtain ⟨h1, C2, h2, h3, h4⟩ := h
    have a2 := Ag_unp h1 a h3
    exact ⟨h1, C2, Rd_ag h2 a2, h3, ih h4 a2⟩
theorem Hist_leC {V : Nat → PVT} {sn : Nat → Nat → Int32} {sz : Nat} {D : RW} {C C3 : CT} {nx : Nat} (h : Hist V sn sz D C nx) (hc : leC C C3) : Hist V sn sz D C3 nx := by
  cases sz with
  | zero => trivial
  | succ sz =>
    obtain ⟨h1, C2, h2, h3, h4⟩ := h
    refine ⟨h1, C2, h2, ?_, h4⟩
    obtain ⟨a1, a2, a3, a4, a5⟩ := h3
    obtain ⟨b1, b2, b3, b4, b5⟩ := hc
    exact ⟨by omega, by omega, by omega, by omega, by omega⟩
theorem Hist_drop {V : Nat → PVT} {sn : Nat → Nat → Int32} : ∀ (sz : Nat) {D : RW} {C : CT} {nx : Nat}, Hist V sn (sz + 1) D C nx → Hist V (fun k => sn (k + 1)) sz D C nx := by
  intro sz
  induction sz with
  | zero => intros; trivial
  | succ sz ih =>
    intro D C nx h
    obtain ⟨h1, C2, h2, h3, h4⟩ := h
    exact ⟨h1, C2, h2, h3, ih h4⟩
theorem Hist_sn {V : Nat → PVT} {sn s2 : Nat → Nat → Int32} : ∀ (sz : Nat) {D : RW} {C : CT} {nx : Nat}, Hist V sn sz D C nx → (∀ k j, k < sz → j < 556 → s2 k j = sn k j) → Hist V s2 sz D C nx := by
  intro sz
  induction sz with
  | zero => intros; trivial
  | succ sz ih =>
    intro D C nx h e
    obtain ⟨h1, C2, h2, h3, h4⟩ := h
    exact ⟨h1, C2, Rd_n h2 (fun j hj => e sz j (by omega) hj), h3, ih h4 (fun k j hk hj => e k j (by omega) hj)⟩
theorem Hist_V {V V2 : Nat → PVT} {sn : Nat → Nat → Int32} : ∀ (sz : Nat) {D : RW} {C : CT} {nx : Nat}, Hist V sn sz D C nx → nx < 20 → sz ≤ 20 → (∀ k, 1 ≤ k → k ≤ sz → V2 ((nx + 20 - k) % 20) = V ((nx + 20 - k) % 20)) → Hist V2 sn sz D C nx := by
  intro sz
  induction sz with
  | zero => intros; trivial
  | succ sz ih =>
    intro D C nx h hx hz e
    obtain ⟨h1, C2, h2, h3, h4⟩ := h
    have e1 : V2 ((nx + 19) % 20) = V ((nx + 19) % 20) := by have := e 1 (by omega) (by omega); simpa using this
    refine ⟨e1 ▸ h1, C2, e1 ▸ h2, h3, ?_⟩
    rw [e1]
    refine ih h4 (Nat.mod_lt _ (by omega)) (by omega) (fun k hk1 hk2 => ?_)
    have := e (k + 1) (by omega) (by omega)
    have ee : ((nx + 19) % 20 + 20 - k) % 20 = (nx + 20 - (k + 1)) % 20 := by omega
    rw [ee]
    exact this
/-- the state of two states of the rows that no one reads behind the call -/
def PVf (h : AH) (i : Nat) : PVT := ((hR h (25 + 2 * i) 0, hI h (25 + 2 * i) 1, hI h (25 + 2 * i) 2, hI h (pb h i)), (hS h (pb h i)).2)
def snf (h : AH) : Nat → Nat → Int32 := fun k j => hI h 76 (556 * k + j)
def Sh (h : AH) : Prop := ∀ s, s < 4 → ∃ b z : Nat, (b = 0 ∨ b = 8 ∨ b = 16 ∨ b = 32) ∧ z ≤ 40 ∧ (b = 0 → z = 0) ∧ hI h (66 + 2 * s) 0 = nI b ∧ hI h 77 s = nI b ∧ hI h (66 + 2 * s) 1 = nI z ∧ hI h 78 s = nI z ∧ ∀ i, i < 40 → hI h (67 + 2 * s) i = hI h 79 (40 * s + i)
def RelC (h : AH) (C : CT) : Prop := Rd (hI h) (hI h 75) C ∧ Sh h ∧ hI h 0 6 = hI h 74 6 ∧ ∃ nx sz : Nat, nx < 20 ∧ sz ≤ 20 ∧ hI h 23 1 = nI nx ∧ hI h 23 2 = nI sz ∧ hI h 74 2 = nI sz ∧ Hist (PVf h) (snf h) sz (hI h) C nx
def Rel (h : AH) : Prop := ∃ C : CT, RelC h C
def OpOk (a b : AH → Option (Int32 × AH)) : Prop := ∀ h, WF h → Rel h → ∃ v h1 h2, a h = some (v, h1) ∧ b h1 = some (v, h2) ∧ WF h2 ∧ Rel h2 ∧ hn h2 ≤ hn h + 1 ∧ hs h2 ≤ hs h + 350
