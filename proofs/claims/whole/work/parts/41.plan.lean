/-! plans, without any heap: G i x c: on day i it may go from place x to camp c (or stay, c = x); En i x: day i leads from x to the end -/
def CE (G : Nat → Nat → Nat → Prop) (En : Nat → Nat → Prop) : Nat → Nat → Nat → Nat → Prop
  | 0, _, _, _ => False
  | n + 1, i, x, o => (n = 0 ∧ En i x) ∨ ∃ c v, G i x c ∧ o = v + (if c = x then 1 else 0) ∧ CE G En n (i + 1) c v
def RE (G : Nat → Nat → Nat → Prop) (mo : Nat) : Nat → Nat → Nat → Prop
  | 0, x, u => x = 14 ∧ u = 0
  | i + 1, c, v => ∃ x u, RE G mo i x u ∧ G i x c ∧ v = u + (if c = x then 1 else 0) ∧ v ≤ mo
noncomputable def lsb (P : Nat → Prop) : Nat → Nat → Nat
  | 0, c => c
  | k + 1, c => if dB (P c) = true then c else lsb P k (c + 1)
theorem lsb_sp {P : Nat → Prop} : ∀ k c, (lsb P k c = c + k ∧ ∀ d, c ≤ d → d < c + k → ¬ P d) ∨ (c ≤ lsb P k c ∧ lsb P k c < c + k ∧ P (lsb P k c) ∧ ∀ d, c ≤ d → d < lsb P k c → ¬ P d) := by
  intro k
  induction k with
  | zero => intro c; exact Or.inl ⟨rfl, fun d h1 h2 => by omega⟩
  | succ k ih =>
    intro c
    unfold lsb
    by_cases h : P c
    · rw [if_pos (dB_t h)]
      exact Or.inr ⟨Nat.le_refl _, by omega, h, fun d h1 h2 => by omega⟩
    · rw [if_neg (by rw [dB_f h]; decide)]
      rcases ih (c + 1) with ⟨a, b⟩ | ⟨a, b, e, f⟩
      · refine Or.inl ⟨by omega, fun d h1 h2 => ?_⟩
        by_cases e : d = c
        · rw [e]; exact h
        · exact b d (by omega) (by omega)
      · refine Or.inr ⟨by omega, by omega, e, fun d h1 h2 => ?_⟩
        by_cases e : d = c
        · rw [e]; exact h
        · exact f d (by omega) (by omega)
theorem lsb_eq {P : Nat → Prop} {k c x : Nat} (h1 : c ≤ x) (h2 : x < c + k) (hx : P x) (hl : ∀ d, c ≤ d → d < x → ¬ P d) : lsb P k c = x := by
  rcases lsb_sp (P := P) k c with ⟨a, b⟩ | ⟨a, b, e, f⟩
  · exact absurd hx (b x h1 h2)
  · by_cases lt : lsb P k c < x
    · exact absurd e (hl _ a lt)
    · by_cases gt : x < lsb P k c
      · exact absurd hx (f x h1 gt)
      · omega
section Plan
variable {G : Nat → Nat → Nat → Prop} {En : Nat → Nat → Prop} {mo : Nat}
theorem RE_le : ∀ i x u, RE G mo i x u → u ≤ mo := by
  intro i
  cases i with
  | zero => intro x u h; have := h.2; omega
  | succ i => intro x u h; obtain ⟨_, _, _, _, _, h⟩ := h; exact h
theorem CE_1 {i x o : Nat} : CE G En 1 i x o ↔ En i x := by
  constructor
  · rintro (⟨-, h⟩ | ⟨c, v, -, -, h⟩)
    · exact h
    · exact absurd h (fun z => z)
  · intro h; exact Or.inl ⟨rfl, h⟩
theorem CE_2 {n i x o : Nat} : CE G En (n + 2) i x o ↔ ∃ c v, G i x c ∧ o = v + (if c = x then 1 else 0) ∧ CE G En (n + 1) (i + 1) c v := by
  constructor
  · rintro (⟨h, -⟩ | h)
    · omega
    · exact h
  · intro h; exact Or.inr h
theorem RE_CE : ∀ i n x u, RE G mo i x u → CE G En n i x (mo - u) → CE G En (i + n) 0 14 mo := by
  intro i
  induction i with
  | zero =>
    intro n x u h1 h2
    obtain ⟨rfl, rfl⟩ := h1
    rw [Nat.zero_add]; exact h2
  | succ i ih =>
    intro n c v h1 h2
    obtain ⟨x, u, h3, h4, h5, h6⟩ := h1
    have := ih (n + 1) x u h3 (Or.inr ⟨c, mo - v, h4, by omega, h2⟩)
    rw [show i + 1 + n = i + (n + 1) by omega]
    exact this
theorem CE_RE : ∀ n i x u, RE G mo i x u → CE G En (n + 1) i x (mo - u) → ∃ y w, RE G mo (i + n) y w ∧ En (i + n) y := by
  intro n
  induction n with
  | zero => intro i x u h1 h2; exact ⟨x, u, h1, CE_1.mp h2⟩
  | succ n ih =>
    intro i x u h1 h2
    have hu := RE_le i x u h1
    obtain ⟨c, v, h3, h4, h5⟩ := CE_2.mp h2
    have := ih (i + 1) c (u + (if c = x then 1 else 0)) ⟨x, u, h1, h3, rfl, by omega⟩ (by rw [show mo - (u + (if c = x then 1 else 0)) = v by omega]; exact h5)
    rw [show i + (n + 1) = i + 1 + n by omega]
    exact this
/-- no place, no end: no plan up to there -/
theorem CE_no {i : Nat} (h : ∀ j, j < i → ∀ x u, RE G mo j x u → ¬ En j x) : ∀ n, n ≤ i → ¬ CE G En n 0 14 mo := by
  intro n hn hc
  cases n with
  | zero => exact hc
  | succ n =>
    obtain ⟨y, w, h1, h2⟩ := CE_RE n 0 14 0 ⟨rfl, rfl⟩ hc
    rw [Nat.zero_add] at h1 h2
    exact h n (by omega) y w h1 h2
theorem RE_none {i : Nat} (h : ∀ x u, ¬ RE G mo i x u) : ∀ d x u, ¬ RE G mo (i + d) x u := by
  intro d
  induction d with
  | zero => exact h
  | succ d ih => intro x u z; obtain ⟨y, w, z, -⟩ := z; exact ih y w z
/-- the next camp of a plan of n days -/
def Nx (G : Nat → Nat → Nat → Prop) (En : Nat → Nat → Prop) (mo n i x u c : Nat) : Prop := G i x c ∧ (c = x → u + 1 ≤ mo) ∧ CE G En (n - (i + 1)) (i + 1) c (mo - (u + (if c = x then 1 else 0)))
noncomputable def pth (G : Nat → Nat → Nat → Prop) (En : Nat → Nat → Prop) (mo n : Nat) : Nat → Nat × Nat
  | 0 => (14, 0)
  | i + 1 => (lsb (Nx G En mo n i (pth G En mo n i).1 (pth G En mo n i).2) 14 0, (pth G En mo n i).2 + (if lsb (Nx G En mo n i (pth G En mo n i).1 (pth G En mo n i).2) 14 0 = (pth G En mo n i).1 then 1 else 0))
theorem Nx_ex {n i x u : Nat} (hu : u ≤ mo) (hi : i + 1 < n) (h : CE G En (n - i) i x (mo - u)) : ∃ c, Nx G En mo n i x u c := by
  rw [show n - i = (n - i - 2) + 2 by omega] at h
  obtain ⟨c, v, h1, h2, h3⟩ := CE_2.mp h
  refine ⟨c, h1, fun e => by rw [if_pos e] at h2; omega, ?_⟩
  rw [show n - (i + 1) = n - i - 2 + 1 by omega, show mo - (u + (if c = x then 1 else 0)) = v by omega]
  exact h3
theorem pth_ok {n : Nat} (hG : ∀ i x c, G i x c → c < 14) (hc : CE G En n 0 14 mo) : ∀ i, i < n → RE G mo i (pth G En mo n i).1 (pth G En mo n i).2 ∧ CE G En (n - i) i (pth G En mo n i).1 (mo - (pth G En mo n i).2) := by
  intro i
  induction i with
  | zero => intro _; exact ⟨⟨rfl, rfl⟩, hc⟩
  | succ i ih =>
    intro hi
    obtain ⟨h1, h2⟩ := ih (by omega)
    have hu := RE_le _ _ _ h1
    obtain ⟨c, hN⟩ := Nx_ex hu hi h2
    rcases lsb_sp (P := Nx G En mo n i (pth G En mo n i).1 (pth G En mo n i).2) 14 0 with ⟨-, b⟩ | ⟨a, b, e, f⟩
    · exact absurd hN (b c (by omega) (by have := hG _ _ _ hN.1; omega))
    · unfold pth
      generalize lsb (Nx G En mo n i (pth G En mo n i).1 (pth G En mo n i).2) 14 0 = c' at *
      obtain ⟨e1, e2, e3⟩ := e
      refine ⟨⟨_, _, h1, e1, rfl, ?_⟩, e3⟩
      show (pth G En mo n i).2 + _ ≤ mo
      split
      · rename_i q; exact e2 q
      · omega
theorem pth_nx {n : Nat} (hG : ∀ i x c, G i x c → c < 14) (hc : CE G En n 0 14 mo) {i : Nat} (hi : i + 1 < n) : Nx G En mo n i (pth G En mo n i).1 (pth G En mo n i).2 (pth G En mo n (i + 1)).1 ∧ (pth G En mo n (i + 1)).1 < 14 ∧ (pth G En mo n (i + 1)).2 = (pth G En mo n i).2 + (if (pth G En mo n (i + 1)).1 = (pth G En mo n i).1 then 1 else 0) ∧ ∀ d, d < (pth G En mo n (i + 1)).1 → ¬ Nx G En mo n i (pth G En mo n i).1 (pth G En mo n i).2 d := by
  obtain ⟨h1, h2⟩ := pth_ok hG hc i (by omega)
  obtain ⟨c, hN⟩ := Nx_ex (RE_le _ _ _ h1) hi h2
  rcases lsb_sp (P := Nx G En mo n i (pth G En mo n i).1 (pth G En mo n i).2) 14 0 with ⟨-, b⟩ | ⟨a, b, e, f⟩
  · exact absurd hN (b c (by omega) (by have := hG _ _ _ hN.1; omega))
  · exact ⟨e, by show lsb _ 14 0 < 14; omega, rfl, fun d hd => f d (by omega) hd⟩
/-- the number of days of the plan; 0: none -/
noncomputable def pn (G : Nat → Nat → Nat → Prop) (En : Nat → Nat → Prop) (mo most : Nat) : Nat := if lsb (fun n => CE G En n 0 14 mo) (most + 1) 0 ≤ most then lsb (fun n => CE G En n 0 14 mo) (most + 1) 0 else 0
theorem pn_no {most : Nat} (h : ∀ n, n ≤ most → ¬ CE G En n 0 14 mo) : pn G En mo most = 0 := by
  unfold pn
  rcases lsb_sp (P := fun n => CE G En n 0 14 mo) (most + 1) 0 with ⟨a, b⟩ | ⟨a, b, e, f⟩
  · rw [if_neg (by omega)]
  · exact absurd e (h _ (by omega))
theorem pn_yes {most n : Nat} (h1 : n ≤ most) (h2 : CE G En n 0 14 mo) (h3 : ∀ m, m < n → ¬ CE G En m 0 14 mo) : pn G En mo most = n := by
  unfold pn
  rw [lsb_eq (P := fun n => CE G En n 0 14 mo) (x := n) (by omega) (by omega) h2 (fun d _ h => h3 d h), if_pos h1]
theorem pn_sp (most : Nat) : (pn G En mo most = 0 ∧ ∀ n, n ≤ most → ¬ CE G En n 0 14 mo) ∨ (1 ≤ pn G En mo most ∧ pn G En mo most ≤ most ∧ CE G En (pn G En mo most) 0 14 mo ∧ ∀ m, m < pn G En mo most → ¬ CE G En m 0 14 mo) := by
  rcases lsb_sp (P := fun n => CE G En n 0 14 mo) (most + 1) 0 with ⟨a, b⟩ | ⟨a, b, e, f⟩
  · have := pn_no (G := G) (En := En) (mo := mo) (most := most) (fun n hn => b n (by omega) (by omega))
    exact Or.inl ⟨this, fun n hn => b n (by omega) (by omega)⟩
  · have y := pn_yes (most := most) (n := lsb (fun n => CE G En n 0 14 mo) (most + 1) 0) (by omega) e (fun m hm => f m (by omega) hm)
    rw [y]
    refine Or.inr ⟨?_, by omega, e, fun m hm => f m (by omega) hm⟩
    cases hl : lsb (fun n => CE G En n 0 14 mo) (most + 1) 0 with
    | zero => rw [hl] at e; exact absurd e (fun z => z)
    | succ n => omega
/-- what the reference's table holds -/
def LV (G : Nat → Nat → Nat → Prop) (En : Nat → Nat → Prop) (most i x o v : Nat) : Prop := (v = 1000 ∨ (1 ≤ v ∧ v ≤ most - i ∧ CE G En v i x o)) ∧ ∀ n, n ≤ most - i → CE G En n i x o → v ≤ n
theorem LV_pn {most v : Nat} (hm : most ≤ 15) (h : LV G En most 0 14 mo v) : v = if pn G En mo most = 0 then 1000 else pn G En mo most := by
  obtain ⟨h1, h2⟩ := h
  rcases pn_sp (G := G) (En := En) (mo := mo) most with ⟨a, b⟩ | ⟨a, b, e, f⟩
  · rw [if_pos a]
    rcases h1 with h1 | ⟨_, h4, h5⟩
    · exact h1
    · exact absurd h5 (b v (by omega))
  · rw [if_neg (by omega)]
    have := h2 _ (by omega) e
    rcases h1 with h1 | ⟨_, h4, h5⟩
    · omega
    · by_cases lt : v < pn G En mo most
      · exact absurd h5 (f v lt)
      · omega
/-- along a shortest plan the table's numbers are the days that are left -/
theorem LV_pth {most n i x u v : Nat} (hm : most ≤ 15) (hn : n ≤ most) (hmin : ∀ m, m < n → ¬ CE G En m 0 14 mo) (hr : RE G mo i x u) (h : LV G En most i x (mo - u) v) (hi : i < n) : v = n - i ↔ CE G En (n - i) i x (mo - u) := by
  obtain ⟨h1, h2⟩ := h
  constructor
  · intro e
    rcases h1 with h1 | ⟨_, _, h5⟩
    · omega
    · rw [← e]; exact h5
  · intro hc
    have a := h2 _ (by omega) hc
    rcases h1 with h1 | ⟨h3, h4, h5⟩
    · omega
    · by_cases lt : v < n - i
      · exact absurd (RE_CE i v x u hr h5) (hmin _ (by omega))
      · omega
end Plan
