/-! both planners over one picture of the desk -/
theorem rv_of {D : RW} {n : Nat → Int32} {C : CT} (R : Rd D n C) : ∃ (E s : Nat) (M sm mr ma mb : Nat → Nat) (WV : Nat → Int32), (∀ h : AH, (∀ q, 2 ≤ q → q ≤ 10 → hI h q = D q) → Rv h C.1 C.2.1 E s M sm mr ma mb WV) ∧ ∀ g : AH, (∀ j, j < 194 → hI g 75 j = n j) → Rm g C.1 C.2.1 E s M sm mr ma mb WV := by
  obtain ⟨⟨E, s, b1, b2, b3, b4, b5, b6⟩, ⟨c1, c2, c3, c4⟩, ⟨p1, p2, p3, p4⟩, -, wt, -, -⟩ := R
  refine ⟨E, s, fun c => (D 5 c).toNatClampNeg, fun c => (D 6 c).toNatClampNeg, fun r => (D 7 r).toNatClampNeg, fun r => (D 8 r).toNatClampNeg, fun r => (D 9 r).toNatClampNeg, D 4, fun h hh => ⟨c1, p1, b1, b2, by rw [hh 2 (by omega) (by omega)]; exact b3, by rw [hh 2 (by omega) (by omega)]; exact b5, by rw [hh 3 (by omega) (by omega)]; exact c2, by rw [hh 3 (by omega) (by omega)]; exact p2, fun c hc => ?_, fun r hr => ?_, fun q hq => by rw [hh 4 (by omega) (by omega)]⟩, fun g hg => ⟨c1, p1, b1, b2, by rw [hg 0 (by omega)]; exact b4, by rw [hg 1 (by omega)]; exact b6, by rw [hg 2 (by omega)]; exact c3, by rw [hg 3 (by omega)]; exact p3, fun c hc => ?_, fun r hr => ?_, fun q hq => ?_⟩⟩
  · obtain ⟨m, b, h1, h2, h3, h4, h5, h6⟩ := c4 c hc
    show (1 ≤ (D 5 c).toNatClampNeg ∧ (D 5 c).toNatClampNeg ≤ 249) ∧ (D 6 c).toNatClampNeg ≤ 1 ∧ hI h 5 c = nI (D 5 c).toNatClampNeg ∧ hI h 6 c = nI (D 6 c).toNatClampNeg
    rw [hh 5 (by omega) (by omega), hh 6 (by omega) (by omega), h3, h5, nI_clamp (by omega), nI_clamp (by omega)]
    exact ⟨h1, h2, rfl, rfl⟩
  · obtain ⟨m, a, b, h1, h2, h3, h4, h5, h6, h7, h8⟩ := p4 r hr
    show (1 ≤ (D 7 r).toNatClampNeg ∧ (D 7 r).toNatClampNeg ≤ 249) ∧ hI h 7 r = nI (D 7 r).toNatClampNeg ∧ hI h 8 r = nI (D 8 r).toNatClampNeg ∧ hI h 9 r = nI (D 9 r).toNatClampNeg
    rw [hh 7 (by omega) (by omega), hh 8 (by omega) (by omega), hh 9 (by omega) (by omega), h3, h5, h7, nI_clamp (by omega), nI_clamp (by omega), nI_clamp (by omega)]
    exact ⟨h1, rfl, rfl, rfl⟩
  · obtain ⟨m, b, h1, h2, h3, h4, h5, h6⟩ := c4 c hc
    show (1 ≤ (D 5 c).toNatClampNeg ∧ (D 5 c).toNatClampNeg ≤ 249) ∧ (D 6 c).toNatClampNeg ≤ 1 ∧ hI g 75 (8 + 2 * c) = nI (D 5 c).toNatClampNeg ∧ hI g 75 (8 + 2 * c + 1) = nI (D 6 c).toNatClampNeg
    rw [hg _ (by omega), hg _ (by omega), h3, h5, h4, h6, nI_clamp (by omega), nI_clamp (by omega)]
    exact ⟨h1, h2, rfl, rfl⟩
  · obtain ⟨m, a, b, h1, h2, h3, h4, h5, h6, h7, h8⟩ := p4 r hr
    show (1 ≤ (D 7 r).toNatClampNeg ∧ (D 7 r).toNatClampNeg ≤ 249) ∧ hI g 75 (36 + 3 * r) = nI (D 7 r).toNatClampNeg ∧ hI g 75 (36 + 3 * r + 1) = nI (D 8 r).toNatClampNeg ∧ hI g 75 (36 + 3 * r + 2) = nI (D 9 r).toNatClampNeg
    rw [hg _ (by omega), hg _ (by omega), hg _ (by omega), h3, h5, h7, h4, h6, h8, nI_clamp (by omega), nI_clamp (by omega), nI_clamp (by omega)]
    exact ⟨h1, rfl, rfl, rfl⟩
  · obtain ⟨v, h1, h2, h3⟩ := wt q hq
    rw [hg _ (by omega), h2, h3]
def Gf (nc nr E s : Nat) (M sm mr ma mb : Nat → Nat) (WV : Nat → Int32) (nt t k l p : Nat) (NT : Nat → Nat → Int32) (i x c : Nat) : Prop := c < nc ∧ (x = c ∨ (ml nc M x < M c ∧ M c ≤ ml nc M x + p ∧ M c < E ∧ opn nr mr (CLp s k mr ma mb WV (l + i)) (ml nc M x) (M c))) ∧ ¬ (k = 2 ∧ sm c = 1) ∧ ∀ u, u < nt → u ≠ t → NT u (l + i) ≠ nI c
def Ef (nc nr E s : Nat) (M mr ma mb : Nat → Nat) (WV : Nat → Int32) (k l p : Nat) (i x : Nat) : Prop := E ≤ ml nc M x + p ∧ opn nr mr (CLp s k mr ma mb WV (l + i)) (ml nc M x) (E - 1)
section Inst
variable {D : RW} {N : Nat → Int32} {nc nr E s nt t k l p f mo : Nat} {M sm mr ma mb : Nat → Nat} {WV : Nat → Int32} {NT : Nat → Nat → Int32}
theorem dx_of (RV : ∀ h : AH, (∀ q, 2 ≤ q → q ≤ 10 → hI h q = D q) → Rv h nc nr E s M sm mr ma mb WV) (hc : nc ≤ 14) (hn : nt ≤ 10) (ht : t < nt) (t2 : D 12 0 = nI nt) (hk : k ≤ 3) (hl : l ≤ 29) (hp : 1 ≤ p ∧ p ≤ 60) (hf : 1 ≤ f ∧ f ≤ 15) (hmo : mo ≤ 2) (e0 : D 13 (35 * t + 0) = nI k) (e1 : D 13 (35 * t + 1) = nI l) (e2 : D 13 (35 * t + 2) = nI p) (e3 : D 13 (35 * t + 3) = nI f) (e4 : D 13 (35 * t + 4) = nI mo) (hv : ∀ u, u < nt → ∀ d, d < 30 → D 13 (35 * u + (5 + d)) = NT u d ∧ (NT u d = -1 ∨ ∃ c, c < nc ∧ NT u d = nI c)) : DX D t nc k l p f mo (fun x => x = 14 ∨ (x < nc ∧ M x < E)) (Gf nc nr E s M sm mr ma mb WV nt t k l p NT) (Ef nc nr E s M mr ma mb WV k l p) := by
  refine ⟨by omega, hc, hl, hf, hmo, e0, e1, e2, e3, e4, fun i x c h => h.1, fun i y x h => ⟨h.1, Or.inl rfl, h.2.2⟩, ⟨Or.inl rfl, fun i x c gx h => ?_⟩, fun h b => ?_⟩
  · rcases h.2.1 with z | z
    · rw [← z]; exact gx
    · exact Or.inr ⟨h.1, z.2.2.1⟩
  · have base : ∀ h : AH, Bs D h → Rv h nc nr E s M sm mr ma mb WV := fun h b => RV h (fun q _ hq => b.2 q (by omega))
    obtain ⟨fit, c1, c2⟩ := camps_sp b.1 (base h b) hk
    refine ⟨fit, c1, fun i hi h b => ?_⟩
    obtain ⟨cl, d1, d2⟩ := closed_sp (k := k) b.1 (base h b) (d := l + i) (by omega)
    have r2 := (base h b).2.1
    have hX : ∀ r, r < nr → (bt cl r = true ↔ CLp s k mr ma mb WV (l + i) r) := fun r hr => (d2 r (by omega)).trans ⟨fun z => z.2, fun z => ⟨hr, z⟩⟩
    refine ⟨cl, d1, fun h b x hx => leads_sp b.1 (base h b) hx hp.2 hX, fun h b => ?_⟩
    obtain ⟨T, t1, t2⟩ := taken_sp b.1 (nt := nt) (t := t) (d := l + i) (nc := nc) hn ht (by omega) (by rw [b.2 12 (by omega)]; exact t2) hc (fun u hu => by rw [b.2 13 (by omega), (hv u hu (l + i) (by omega)).1]; exact (hv u hu (l + i) (by omega)).2)
    have tk : ∀ c, c < 32 → (bt (T ^^^ (-1)) c = true ↔ ∀ u, u < nt → u ≠ t → NT u (l + i) ≠ nI c) := by
      intro c hc2
      rw [bt_xor T hc2, Bool.not_eq_true', Bool.eq_false_iff]
      constructor
      · intro z u h1 h2 h3
        exact z ((t2 c hc2).mpr ⟨u, h1, h2, by rw [b.2 13 (by omega), (hv u h1 (l + i) (by omega)).1]; exact h3⟩)
      · intro z q
        obtain ⟨u, h1, h2, h3⟩ := (t2 c hc2).mp q
        rw [b.2 13 (by omega), (hv u h1 (l + i) (by omega)).1] at h3
        exact z u h1 h2 h3
    refine ⟨T, t1, fun x hx gx => ?_, fun h b x hx => ?_⟩
    · rw [bt_and, Bool.and_eq_true, c2 x hx, tk x hx]
      constructor
      · rintro ⟨⟨z1, -, z2⟩, z3⟩
        exact ⟨z1, Or.inl rfl, z2, z3⟩
      · rintro ⟨z1, -, z2, z3⟩
        rcases gx with g | g
        · omega
        · exact ⟨⟨z1, g.2, z2⟩, z3⟩
    · obtain ⟨Z, z1, z2⟩ := ahead_sp b.1 (base h b) hx hp.2 hX
      refine ⟨Z, z1, fun c hc2 => ?_⟩
      rw [bt_and, bt_and, Bool.and_eq_true, Bool.and_eq_true, z2 c hc2, c2 c hc2, tk c hc2]
      constructor
      · rintro ⟨⟨a1, a2, a3, a4⟩, ⟨-, b2, b3⟩, b4⟩
        refine ⟨fun e => ?_, a1, Or.inr ⟨a2, a3, b2, a4⟩, b3, b4⟩
        subst e
        have : ml nc M c = M c := by unfold ml; rw [if_pos a1]
        omega
      · rintro ⟨a1, a2, a3, a4, a5⟩
        rcases a3 with z | ⟨q1, q2, q3, q4⟩
        · exact absurd z.symm a1
        · exact ⟨⟨a2, q1, q2, q4⟩, ⟨a2, q3, a4⟩, a5⟩
theorem mx_of (RM : ∀ g : AH, (∀ j, j < 194 → hI g 75 j = N j) → Rm g nc nr E s M sm mr ma mb WV) (hc : nc ≤ 14) (hn : nt ≤ 10) (ht : t < nt) (n2 : N 2 = nI nc) (n5 : N 5 = nI nt) (hk : k ≤ 3) (hl : l ≤ 29) (hp : 1 ≤ p ∧ p ≤ 60) (hf : 1 ≤ f ∧ f ≤ 15) (hmo : mo ≤ 2) (e0 : N (194 + 5 * t + 0) = nI k) (e1 : N (194 + 5 * t + 1) = nI l) (e2 : N (194 + 5 * t + 2) = nI p) (e3 : N (194 + 5 * t + 3) = nI f) (e4 : N (194 + 5 * t + 4) = nI mo) (hv : ∀ u, u < nt → ∀ d, d < 30 → N (244 + 30 * u + d) = NT u d) : MX N t nc l f mo (Gf nc nr E s M sm mr ma mb WV nt t k l p NT) (Ef nc nr E s M mr ma mb WV k l p) := by
  have base : ∀ g : AH, hI g 75 = N → Rm g nc nr E s M sm mr ma mb WV := fun g hg => RM g (fun j _ => by rw [hg])
  refine ⟨by omega, hc, hl, hf, hmo, n2, e1, e3, e4, fun g w hg i x c hi hx hcc => ?_, fun g w hg i x hi hx => ?_, fun i x c h => h.1⟩
  · rw [canGo_sp w (base g hg) (nt := nt) (k := k) (p := p) hn ht hk (by omega) hp.2 hx hcc (by rw [hg]; exact n5) (by rw [hg]; exact e0) (by rw [hg]; exact e2)]
    refine congrArg (fun q => some (bI q, g)) (dB_cg ⟨fun z => ⟨hcc, z.1, z.2.1, fun u h1 h2 => ?_⟩, fun z => ⟨z.2.1, z.2.2.1, fun u h1 h2 => ?_⟩⟩)
    · rw [← hv u h1 (l + i) (by omega), ← hg]; exact z.2.2 u h1 h2
    · rw [hg, hv u h1 (l + i) (by omega)]; exact z.2.2.2 u h1 h2
  · exact canEnd_sp w (base g hg) (t := t) (k := k) (p := p) (by omega) hk (by omega) hp.2 hx (by rw [hg]; exact e0) (by rw [hg]; exact e2)
end Inst
