/-! The class reads a number. -/
theorem rd_stop (L : Nat) (by_ : Nat → Int32) (p i : Nat) (h : ¬ dg L by_ (rd L by_ p i).1 = true) : ∀ j, rd L by_ p (i + j) = rd L by_ p i
  | 0 => rfl
  | j + 1 => by
    have ih := rd_stop L by_ p i h j
    show (if dg L by_ (rd L by_ p (i + j)).1 then _ else rd L by_ p (i + j)) = _
    rw [ih, if_neg h]
theorem rd_step {L : Nat} {by_ : Nat → Int32} {p i : Nat} (h : dg L by_ (rd L by_ p i).1 = true) : rd L by_ p (i + 1) = ((rd L by_ p i).1 + 1, (rd L by_ p i).2 * 10 + by_ (rd L by_ p i).1 - 48) := by
  show (if dg L by_ (rd L by_ p i).1 then _ else rd L by_ p i) = _
  rw [if_pos h]
theorem xnI_subp (p i : Nat) : nI (p + i) - nI p = nI i := by rw [← xnI_add]; grind
def rcode (x : Nat ⊕ (Nat × Int32)) : Int32 := match x with
  | .inl q => nI q
  | .inr _ => -1
section PSF
variable {b : Nat} {W : XH} {tl fc pa nu : Int32} {by_ fo : Nat → Int32}
variable {fu L p m : Nat}
end PSF

