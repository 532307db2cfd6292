/-! bestRule, sustainable, both sides. -/
theorem b_most_eq {n : Nat} {u v : UT} {N : Int32} (h : U4 n u v) : b_most u N n = b_most v N n := by
  unfold b_most
  exact it_cg (fun i x hi => by rw [h i hi 0 (by decide), h i hi 3 (by decide)]) 0
/-- what a rule leaves lacking -/
def LK (cap flo top eva : Int32) (n N : Nat) (inf : Nat → Int32) (u : UT) (r : Nat) : Int32 := b_most (t_S cap flo top eva (nI r) n inf (u_clr n u) N).2.1 (nI N) n
def bst (F : Nat → Int32) (i : Nat) : Int32 × Int32 := it (fun r (x : Int32 × Int32) => if nI r = (0 : Int32) then (nI r, F r) else if x.2 ≤ F r then x else (nI r, F r)) (0, 0) i
theorem bst_n (F : Nat → Int32) : ∀ i, i ≤ 4 → ∃ r, r ≤ i ∧ (bst F i).1 = nI r
  | 0, _ => ⟨0, Nat.le_refl _, rfl⟩
  | i + 1, h => by
    obtain ⟨r, h1, h2⟩ := bst_n F i (by omega)
    show ∃ r, r ≤ i + 1 ∧ (if nI i = (0 : Int32) then (nI i, F i) else if (bst F i).2 ≤ F i then bst F i else (nI i, F i)).1 = nI r
    by_cases c : nI i = (0 : Int32)
    · rw [if_pos c]; exact ⟨i, by omega, rfl⟩
    · rw [if_neg c]
      by_cases c2 : (bst F i).2 ≤ F i
      · rw [if_pos c2]; exact ⟨r, by omega, h2⟩
      · rw [if_neg c2]; exact ⟨i, by omega, rfl⟩
def mbst (F : Nat → Int32) (i : Nat) : Int32 × Int32 := if i = 0 then (-1, 0) else bst F i
theorem nI_iff0 {i : Nat} (h : i < 100) : nI i = (0 : Int32) ↔ i = 0 := by
  constructor
  · intro e
    exact xnI_inj (by omega) (by omega) (e.trans xnI_z.symm)
  · intro e; subst e; rfl
section PZ4
variable {B s L c k n N D : Nat} {h : XH} {cap flo top eva lim rul lev dry : Int32} {lo : Int64} {rf us : UT} {od ra ac : Nat → Int32} {ap : Int32} {rfm usm : UT} {ram acm sv as : Nat → Int32} {th : Int32} {sd : Int64} {td : Int32} {sp : Nat → Int64} {lf : Int32} {tx : Nat → Int32} {pl nb : Int32}
variable {fu : Nat}
end PZ4

