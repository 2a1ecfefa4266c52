/-! the 86 fixed cells -/
def shq : Nat → Nat × Nat
  | 0 => (11, 7)
  | 1 => (8, 9)
  | 2 => (0, 2)
  | 3 => (0, 3)
  | 4 => (0, 120)
  | 5 => (0, 14)
  | 6 => (1, 14)
  | 7 => (0, 10)
  | 8 => (0, 10)
  | 9 => (0, 10)
  | 10 => (0, 8)
  | 11 => (10, 3)
  | 12 => (0, 1)
  | 13 => (0, 350)
  | 14 => (0, 350)
  | 15 => (7, 5)
  | 16 => (0, 15)
  | 17 => (0, 48)
  | 18 => (0, 225)
  | 19 => (4, 3)
  | 20 => (0, 1)
  | 21 => (0, 12)
  | 22 => (0, 12)
  | 23 => (5, 3)
  | 24 => (3, 20)
  | 25 => (6, 4)
  | 26 => (0, 1)
  | 27 => (6, 4)
  | 28 => (0, 1)
  | 29 => (6, 4)
  | 30 => (0, 1)
  | 31 => (6, 4)
  | 32 => (0, 1)
  | 33 => (6, 4)
  | 34 => (0, 1)
  | 35 => (6, 4)
  | 36 => (0, 1)
  | 37 => (6, 4)
  | 38 => (0, 1)
  | 39 => (6, 4)
  | 40 => (0, 1)
  | 41 => (6, 4)
  | 42 => (0, 1)
  | 43 => (6, 4)
  | 44 => (0, 1)
  | 45 => (6, 4)
  | 46 => (0, 1)
  | 47 => (6, 4)
  | 48 => (0, 1)
  | 49 => (6, 4)
  | 50 => (0, 1)
  | 51 => (6, 4)
  | 52 => (0, 1)
  | 53 => (6, 4)
  | 54 => (0, 1)
  | 55 => (6, 4)
  | 56 => (0, 1)
  | 57 => (6, 4)
  | 58 => (0, 1)
  | 59 => (6, 4)
  | 60 => (0, 1)
  | 61 => (6, 4)
  | 62 => (0, 1)
  | 63 => (6, 4)
  | 64 => (0, 1)
  | 65 => (2, 4)
  | 66 => (9, 3)
  | 67 => (0, 40)
  | 68 => (9, 3)
  | 69 => (0, 40)
  | 70 => (9, 3)
  | 71 => (0, 40)
  | 72 => (9, 3)
  | 73 => (0, 40)
  | 74 => (12, 13)
  | 75 => (0, 556)
  | 76 => (0, 11120)
  | 77 => (0, 4)
  | 78 => (0, 4)
  | 79 => (0, 160)
  | 80 => (0, 720)
  | 81 => (0, 15)
  | 82 => (0, 300)
  | 83 => (0, 12)
  | 84 => (1, 12)
  | 85 => (0, 40)
  | _ => (0, 0)
def tR : Nat → Nat → Option Nat
  | 0, 0 => some 1
  | 0, 1 => some 11
  | 0, 2 => some 15
  | 0, 3 => some 19
  | 0, 4 => some 23
  | 0, 5 => some 65
  | 1, 0 => some 2
  | 1, 1 => some 3
  | 1, 2 => some 4
  | 1, 3 => some 5
  | 1, 4 => some 6
  | 1, 5 => some 7
  | 1, 6 => some 8
  | 1, 7 => some 9
  | 1, 8 => some 10
  | 11, 0 => some 12
  | 11, 1 => some 13
  | 11, 2 => some 14
  | 15, 1 => some 16
  | 15, 2 => some 17
  | 15, 3 => some 18
  | 19, 0 => some 20
  | 19, 1 => some 21
  | 19, 2 => some 22
  | 23, 0 => some 24
  | 24, 0 => some 25
  | 24, 1 => some 27
  | 24, 2 => some 29
  | 24, 3 => some 31
  | 24, 4 => some 33
  | 24, 5 => some 35
  | 24, 6 => some 37
  | 24, 7 => some 39
  | 24, 8 => some 41
  | 24, 9 => some 43
  | 24, 10 => some 45
  | 24, 11 => some 47
  | 24, 12 => some 49
  | 24, 13 => some 51
  | 24, 14 => some 53
  | 24, 15 => some 55
  | 24, 16 => some 57
  | 24, 17 => some 59
  | 24, 18 => some 61
  | 24, 19 => some 63
  | 65, 0 => some 66
  | 65, 1 => some 68
  | 65, 2 => some 70
  | 65, 3 => some 72
  | 66, 2 => some 67
  | 68, 2 => some 69
  | 70, 2 => some 71
  | 72, 2 => some 73
  | 74, 0 => some 75
  | 74, 1 => some 76
  | 74, 3 => some 77
  | 74, 4 => some 78
  | 74, 5 => some 79
  | 74, 7 => some 80
  | 74, 8 => some 81
  | 74, 9 => some 82
  | 74, 10 => some 83
  | 74, 11 => some 84
  | 74, 12 => some 85
  | _, _ => none
def rowsOk : List Nat := [2, 3, 4, 12, 13, 20, 21]
/-- the before-row of a piece -/
def pb (h : AH) (i : Nat) : Nat := (hR h (25 + 2 * i) 3).getD 0
/-- a piece's references -/
def PW (h : AH) (i : Nat) : Prop := hR h (25 + 2 * i) 3 = some (pb h i) ∧ (pb h i = 26 + 2 * i ∨ 86 ≤ pb h i) ∧ pb h i < hn h ∧ (hS h (pb h i)).1 = 0 ∧ (hS h (pb h i)).2 ≤ 350 ∧ (hR h (25 + 2 * i) 0 = none ∨ ∃ r, r ∈ rowsOk ∧ hR h (25 + 2 * i) 0 = some r)
def WF (h : AH) : Prop := 86 ≤ hn h ∧ (∀ k, k < 86 → hS h k = shq k) ∧ (∀ k j, (tR k j).isSome = true → hR h k j = tR k j) ∧ (∀ i, i < 20 → PW h i) ∧ (∀ i j, i < 20 → j < 20 → pb h i = pb h j → i = j)
theorem hI_sI (h : AH) (k : Nat) (f : Nat → Int32) (j : Nat) : hI (sI h k f) j = if j = k then f else hI h j := rfl
theorem hR_sI (h : AH) (k : Nat) (f : Nat → Int32) : hR (sI h k f) = hR h := rfl
theorem hS_sI (h : AH) (k : Nat) (f : Nat → Int32) : hS (sI h k f) = hS h := rfl
theorem hn_sI (h : AH) (k : Nat) (f : Nat → Int32) : hn (sI h k f) = hn h := rfl
theorem hs_sI (h : AH) (k : Nat) (f : Nat → Int32) : hs (sI h k f) = hs h := rfl
theorem WF_sI (h : AH) (k : Nat) (f : Nat → Int32) : WF (sI h k f) ↔ WF h := Iff.rfl
theorem bd_some {α γ : Type} (a : α) (f : α → Option γ) : bd (some a) f = f a := rfl
theorem bd2_some {α β γ : Type} (a : α) (b : β) (f : α → β → Option γ) : bd2 (some (a, b)) f = f a b := rfl
theorem wf_lt {h : AH} (w : WF h) {q : Nat} (hq : q < 86) : q < hn h := Nat.lt_of_lt_of_le hq w.1
theorem gR_w {h : AH} (w : WF h) {q ci j : Nat} (h1 : q < 86) (h2 : (shq q).1 = ci + 4) (h3 : (tR q j).isSome = true) : gR h (some q) ci j = some (tR q j) := by
  simp only [gR]
  rw [if_pos ⟨wf_lt w h1, by rw [w.2.1 q h1]; exact h2⟩, w.2.2.1 q j h3]
theorem gI_w {h : AH} (w : WF h) {q ci j : Nat} (h1 : q < 86) (h2 : (shq q).1 = ci + 4) : gI h (some q) ci j = some (hI h q j) := by
  simp only [gI]
  rw [if_pos ⟨wf_lt w h1, by rw [w.2.1 q h1]; exact h2⟩]
theorem pI_w {h : AH} (w : WF h) {q ci j : Nat} {v : Int32} (h1 : q < 86) (h2 : (shq q).1 = ci + 4) : pI h (some q) ci j v = some (sI h q (upd (hI h q) j v)) := by
  simp only [pI]
  rw [if_pos ⟨wf_lt w h1, by rw [w.2.1 q h1]; exact h2⟩]
theorem isO_w {h : AH} (w : WF h) {q ci : Nat} (h1 : q < 86) (h2 : (shq q).1 = ci + 4) : isO h (some q) ci = some () := by
  simp only [isO]
  rw [if_pos ⟨wf_lt w h1, by rw [w.2.1 q h1]; exact h2⟩]
theorem nI_inb {i n : Nat} (h : i < n) (hn : n ≤ 20000) : ¬ (nI i < 0 ∨ n ≤ (nI i).toNatClampNeg) := by
  have := nI_in (c := i) (N := n) h (by omega)
  exact this
theorem ldI_w {h : AH} (w : WF h) {q i : Nat} (h1 : q < 86) (h2 : (shq q).1 = 0) (h3 : i < (shq q).2) (h4 : (shq q).2 ≤ 20000) : ldI h (some q) (nI i) = some (hI h q i) := by
  simp only [ldI]
  rw [w.2.1 q h1, if_pos ⟨wf_lt w h1, h2, nI_inb h3 h4⟩, nI_clamp (by omega)]
theorem stI_w {h : AH} (w : WF h) {q i : Nat} {v : Int32} (h1 : q < 86) (h2 : (shq q).1 = 0) (h3 : i < (shq q).2) (h4 : (shq q).2 ≤ 20000) : stI h (some q) (nI i) v = some (sI h q (upd (hI h q) i v)) := by
  simp only [stI]
  rw [w.2.1 q h1, if_pos ⟨wf_lt w h1, h2, nI_inb h3 h4⟩, nI_clamp (by omega)]
theorem ldZ_w {h : AH} (w : WF h) {q i : Nat} (h1 : q < 86) (h2 : (shq q).1 = 1) (h3 : i < (shq q).2) (h4 : (shq q).2 ≤ 20000) : ldZ h (some q) (nI i) = some (hI h q i) := by
  simp only [ldZ]
  rw [w.2.1 q h1, if_pos ⟨wf_lt w h1, h2, nI_inb h3 h4⟩, nI_clamp (by omega)]
theorem stZ_w {h : AH} (w : WF h) {q i : Nat} {v : Int32} (h1 : q < 86) (h2 : (shq q).1 = 1) (h3 : i < (shq q).2) (h4 : (shq q).2 ≤ 20000) (h5 : v = 0 ∨ v = 1) : stZ h (some q) (nI i) v = some (sI h q (upd (hI h q) i v)) := by
  simp only [stZ]
  rw [w.2.1 q h1, if_pos ⟨⟨wf_lt w h1, h2, nI_inb h3 h4⟩, h5⟩, nI_clamp (by omega)]
theorem lenA_w {h : AH} (w : WF h) {q : Nat} (h1 : q < 86) (h2 : (shq q).1 = 0) : lenA h (some q) = some (nI (shq q).2) := by
  simp only [lenA]
  rw [w.2.1 q h1, if_pos ⟨wf_lt w h1, h2⟩]
  rfl
theorem ldR_w {h : AH} (w : WF h) {q t i : Nat} (h1 : q < 86) (h2 : (shq q).1 = t) (h3 : i < (shq q).2) (h4 : (shq q).2 ≤ 20000) (h5 : (tR q i).isSome = true) : ldR h (some q) t (nI i) = some (tR q i) := by
  simp only [ldR]
  rw [w.2.1 q h1, if_pos ⟨wf_lt w h1, h2, nI_inb h3 h4⟩, nI_clamp (by omega), w.2.2.1 q i h5]
theorem lit (n : Nat) : (OfNat.ofNat n : Int32) = nI n := rfl
theorem tR_use : tR 0 0 = some 1 ∧ tR 74 12 = some 85 := by simp only [tR, and_self]
theorem shq_use : (shq 0).1 = 11 ∧ (shq 85).2 = 40 := by simp only [shq, and_self]
