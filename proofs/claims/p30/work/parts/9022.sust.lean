/-! sustainable, both sides. -/
def scu (p : Int32) (u : UT) : UT := fun i j => if j = 0 then u i 0 * p / 100 else u i j
def msc (n : Nat) (p : Int32) (u : UT) : UT := it (fun i u => xup u i (xup (u i) 0 (u i 0 * p / 100))) u n
def SUs (cap flo top eva rul : Int32) (n N : Nat) (inf : Nat → Int32) (u : UT) (p : Int32) : Int32 := (t_S cap flo top eva rul n inf (u_clr n (scu p u)) N).2.2
theorem pv_s {i : Nat} (hi : i < 60) : nI (300 - 5 * i) + (-5 : Int32) = nI (300 - 5 * (i + 1)) := by
  have e : 300 - 5 * i = (300 - 5 * (i + 1)) + 5 := by omega
  rw [e, ← xnI_add]
  show nI (300 - 5 * (i + 1)) + (5 : Int32) + (-5 : Int32) = _
  grind
theorem sc_rng {d p : Int32} (h1 : 0 ≤ d.toInt ∧ d.toInt ≤ 9999) (h2 : 0 ≤ p.toInt ∧ p.toInt ≤ 300) : 0 ≤ (d * p / 100).toInt ∧ (d * p / 100).toInt ≤ 30000 := by
  have z : (100 : Int32).toInt = 100 := rfl
  have g0 : 0 ≤ d.toInt * p.toInt := Int.mul_nonneg h1.1 h2.1
  have g1 : d.toInt * p.toInt ≤ 9999 * 300 := Int.mul_le_mul h1.2 h2.2 h2.1 (by omega)
  have e : (d * p).toInt = d.toInt * p.toInt := ti_mul (by omega) (by omega)
  rw [ti_div (by rw [e]; exact g0) (by rw [z]; omega), e, z]
  omega
theorem msc_at {n i : Nat} (p : Int32) (u : UT) (hi : i < n) : msc n p u i = xup (u i) 0 (u i 0 * p / 100) := by
  have e : msc n p u = u_map (fun _ r => xup r 0 (r 0 * p / 100)) n u := it_map (fun _ r => xup r 0 (r 0 * p / 100)) n u
  rw [e]
  simp only [u_map, if_pos hi]
theorem w_sc_at {n i : Nat} (p : Int32) (v u : UT) (hi : i < n) : w_sc n p v u i = xup (u i) 0 (v i 0 * p / 100) := by
  have e : w_sc n p v u = u_map (fun i r => xup r 0 (v i 0 * p / 100)) n u := it_map (fun i r => xup r 0 (v i 0 * p / 100)) n u
  rw [e]
  simp only [u_map, if_pos hi]
theorem pv_rng {i : Nat} (hi : i < 60) : 0 ≤ (nI (300 - 5 * i)).toInt ∧ (nI (300 - 5 * i)).toInt ≤ 300 := by rw [xnI_toInt (by omega)]; omega
section PZ5
variable {B s L c k n N D : Nat} {h : XH} {cap flo top eva lim rul lev dry : Int32} {lo : Int64} {rf us : UT} {od ra ac : Nat → Int32} {ap : Int32} {rfm usm : UT} {ram acm sv as : Nat → Int32} {th : Int32} {sd : Int64} {td : Int32} {sp : Nat → Int64} {lf : Int32} {tx : Nat → Int32} {pl nb : Int32}
variable {fu : Nat}
theorem msc_ok {u : UT} (ho : u_okd n u) {p : Int32} (hp : 0 ≤ p.toInt ∧ p.toInt ≤ 300) : u_ok n (msc n p u) := by
  intro i hi
  rw [msc_at p u hi]
  exact ⟨sc_rng (ho i hi).1 hp, (ho i hi).2⟩
theorem msc_scu (u : UT) (p : Int32) : ∀ i, i < n → msc n p u i 0 = scu p u i 0 ∧ msc n p u i 1 = scu p u i 1 := fun i hi => by
  rw [msc_at p u hi]
  exact ⟨rfl, rfl⟩
end PZ5

