/-! The setters, both sides. -/
theorem xnI_s1 (m : Nat) : nI (m + 1) - (1 : Int32) = nI m := by rw [← xnI_s]; grind
theorem i32_nle {a b : Int32} (h : ¬ a ≤ b) : b < a := by rw [ti_le] at h; rw [ti_lt]; omega
theorem i32_le {a b : Int32} (h : a ≤ b) : ¬ b < a := by rw [ti_le] at h; rw [ti_lt]; omega
section PW8
variable {B s L c k n N D : Nat} {h : XH} {cap flo top eva lim rul lev dry : Int32} {lo : Int64} {rf us : UT} {od ra ac : Nat → Int32} {ap : Int32} {rfm usm : UT} {ram acm sv as : Nat → Int32} {th : Int32} {sd : Int64} {td : Int32} {sp : Nat → Int64} {lf : Int32} {tx : Nat → Int32} {pl nb : Int32}
variable {fu : Nat}
theorem CT_rc (hC : CT c k n N D cap flo top eva lev lo ap rf us rfm usm ra ac ram acm) (hk : k < 6) {p q r t : Int32} (g : inR p 1 500 ∧ inR q 1 100 ∧ inR r 0 999 ∧ inR t 1 50000) :
    CT (c + 1) (k + 1) n N D cap flo top eva lev lo ap (xup rf k (xup (xup (xup (xup (xup (xup (rf k) 0 p) 1 q) 2 r) 3 t) 4 0) 5 0)) us (xup rfm k (xup (xup (xup (xup (xup (rfm k) 0 p) 1 q) 2 r) 3 t) 4 0)) usm ra ac ram acm := by
  obtain ⟨⟨a1, a2, a3, a4⟩, ⟨b1, b2, b3⟩, ⟨r1, r2, r3, r4⟩, h4, h5, h6, h7, h8⟩ := hC
  refine ⟨⟨hk, a2, a3, a4⟩, ⟨b1, b2, by omega⟩, ⟨fun i hi j hj => ?_, r2, r3, r4⟩, h4, h5, fun i hi => ?_, h7, h8⟩
  · by_cases e : i = k
    · subst e
      rw [xup_self, xup_self]
      have h5 : j = 0 ∨ j = 1 ∨ j = 2 ∨ j = 3 ∨ j = 4 := by omega
      rcases h5 with rfl | rfl | rfl | rfl | rfl <;> rfl
    · rw [xup_ne _ _ e, xup_ne _ _ e]; exact r1 i (by omega) j hj
  · by_cases e : i = k
    · subst e
      rw [xup_self]
      obtain ⟨g1, g2, g3, g4⟩ := g
      exact ⟨⟨g1, g2, g3, g4⟩, Int.le_refl 0, g3.1⟩
    · rw [xup_ne _ _ e]; exact h6 i (by omega)
theorem CT_uc (hC : CT c k n N D cap flo top eva lev lo ap rf us rfm usm ra ac ram acm) (hn : n < 5) {p q : Int32} (g : inR p 0 9999 ∧ inR q 1 9) :
    CT (c + 1) k (n + 1) N D cap flo top eva lev lo ap rf (xup us n (xup (xup (xup (xup (us n) 0 p) 1 q) 2 0) 3 0)) rfm (xup usm n (xup (xup (xup (xup (usm n) 0 p) 1 q) 2 0) 3 0)) ra ac ram acm := by
  obtain ⟨⟨a1, a2, a3, a4⟩, ⟨b1, b2, b3⟩, ⟨r1, r2, r3, r4⟩, h4, h5, h6, h7, h8⟩ := hC
  refine ⟨⟨a1, hn, a3, a4⟩, ⟨b1, b2, by omega⟩, ⟨r1, fun i hi j hj => ?_, r3, r4⟩, h4, h5, h6, fun i hi => ?_, h8⟩
  · by_cases e : i = n
    · subst e
      rw [xup_self, xup_self]
      rcases xlt4 hj with rfl | rfl | rfl | rfl <;> rfl
    · rw [xup_ne _ _ e, xup_ne _ _ e]; exact r2 i (by omega) j hj
  · by_cases e : i = n
    · subst e
      rw [xup_self]
      exact ⟨g.1, g.2⟩
    · rw [xup_ne _ _ e]; exact h7 i (by omega)
theorem CT_de (hC : CT c k n N D cap flo top eva lev lo ap rf us rfm usm ra ac ram acm) {i : Nat} (hi : i < n) {q : Int32} (g : inR q 0 9999) : CT (c + 1) k n N D cap flo top eva lev lo ap rf (xup us i (xup (us i) 0 q)) rfm (xup usm i (xup (usm i) 0 q)) ra ac ram acm := by
  obtain ⟨h1, ⟨b1, b2, b3⟩, ⟨r1, r2, r3, r4⟩, h4, h5, h6, h7, h8⟩ := hC
  refine ⟨h1, ⟨b1, b2, by omega⟩, ⟨r1, fun m hm' j hj => ?_, r3, r4⟩, h4, h5, h6, fun m hm' => ?_, h8⟩
  · by_cases e : m = i
    · subst e
      rw [xup_self, xup_self]
      by_cases ej : j = 0
      · subst ej; rw [xup_self, xup_self]
      · rw [xup_ne _ _ ej, xup_ne _ _ ej]; exact r2 m hm' j hj
    · rw [xup_ne _ _ e, xup_ne _ _ e]; exact r2 m hm' j hj
  · by_cases e : m = i
    · subst e
      rw [xup_self]
      exact ⟨g, (h7 m hm').2⟩
    · rw [xup_ne _ _ e]; exact h7 m hm'
theorem CT_res (hC : CT c k n N D cap flo top eva lev lo ap rf us rfm usm ra ac ram acm) (hc : c < 1000) {p q r : Int32} (g : inR p 100 60000 ∧ inR q 0 p ∧ inR r 0 p) :
    CT (c + 1) k n N D p q r eva (lev - xmax (lev - p) 0) (lo + Int32.toInt64 (xmax (lev - p) 0)) (if lev ≤ p then ap else ap + (lev - p)) rf us rfm usm ra ac ram acm ∧ (if lev ≤ p then lev else p) = lev - xmax (lev - p) 0 := by
  obtain ⟨h1, ⟨b1, b2, b3⟩, h3, h4, ⟨h5, h5'⟩, h6⟩ := hC
  obtain ⟨g1, g2, g3⟩ := g
  obtain ⟨l1, l2⟩ := h4.1
  have z0 : (0 : Int32).toInt = 0 := rfl
  have z1 : (100 : Int32).toInt = 100 := rfl
  have z6 : (60000 : Int32).toInt = 60000 := rfl
  have g11 : 100 ≤ p.toInt := g1.1
  have g12 : p.toInt ≤ 60000 := g1.2
  have es : (lev - p).toInt = lev.toInt - p.toInt := ti_sub (by omega) (by omega)
  have em : (xmax (lev - p) 0).toInt = max (lev.toInt - p.toInt) 0 := by rw [ti_max, es, z0]
  have el : (lev - xmax (lev - p) 0).toInt = lev.toInt - max (lev.toInt - p.toInt) 0 := by rw [ti_sub (by rw [em]; omega) (by rw [em]; omega), em]
  have eo : (lo + Int32.toInt64 (xmax (lev - p) 0)).toInt = lo.toInt + max (lev.toInt - p.toInt) 0 := by
    rw [Int64.toInt_add, Int32.toInt_toInt64, em, Int.bmod_eq_of_le (by omega) (by omega)]
  refine ⟨⟨h1, ⟨?_, by rw [eo]; omega, by rw [eo]; omega⟩, h3, ⟨g1, g2, g3, h4.2.2.2⟩, ⟨by rw [el]; omega, by rw [el]; omega⟩, h6⟩, ?_⟩
  · by_cases cl : lev ≤ p
    · rw [if_pos cl, eo, b1]
      rw [ti_le] at cl
      omega
    · rw [if_neg cl, eo, ti_add (by rw [es]; omega) (by rw [es]; omega), es, b1]
      rw [ti_le] at cl
      omega
  · apply ti_ext
    rw [el]
    by_cases cl : lev ≤ p
    · rw [if_pos cl]; rw [ti_le] at cl; omega
    · rw [if_neg cl]; rw [ti_le] at cl; omega
end PW8

