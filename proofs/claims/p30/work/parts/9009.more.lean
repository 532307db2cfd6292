/-! restart, addRain, append, clearText, both sides. -/
theorem xnar {p : Int32} (h : inR p 0 127) : vp_nar .byte (Int8.toInt32 (Int32.toInt8 p)) = p := by
  obtain ⟨i, hi, rfl⟩ := ix_to (n := 127) rfl h
  have H : ∀ m, m < 128 → vp_nar .byte (Int8.toInt32 (Int32.toInt8 (nI m))) = nI m := by decide +kernel
  exact H i hi
section PW9
variable {B s L c k n N D : Nat} {h : XH} {cap flo top eva lim rul lev dry : Int32} {lo : Int64} {rf us : UT} {od ra ac : Nat → Int32} {ap : Int32} {rfm usm : UT} {ram acm sv as : Nat → Int32} {th : Int32} {sd : Int64} {td : Int32} {sp : Nat → Int64} {lf : Int32} {tx : Nat → Int32} {pl nb : Int32}
variable {fu : Nat}
theorem u_clr_at {u : UT} {i : Nat} (hi : i < n) : u_clr n u i = xup (xup (u i) 2 0) 3 0 := by
  have e : u_clr n u = u_map (fun _ r => xup (xup r 2 0) 3 0) n u := it_map (fun _ r => xup (xup r 2 0) 3 0) n u
  rw [e]
  simp only [u_map, if_pos hi]
theorem U4_clr {u v : UT} (h : U4 n u v) : U4 n (u_clr n u) (u_clr n v) := by
  intro i hi j hj
  rw [u_clr_at hi, u_clr_at hi]
  rcases xlt4 hj with rfl | rfl | rfl | rfl
  · exact h i hi 0 hj
  · exact h i hi 1 hj
  · rfl
  · rfl
theorem okd_col {u v : UT} (h : u_col u v) (ho : u_okd n u) : u_okd n v := by
  intro i hi
  rw [← (h i).1, ← (h i).2]; exact ho i hi
theorem okd_ok {u : UT} (ho : u_okd n u) : u_ok n u := fun i hi => ⟨⟨(ho i hi).1.1, by have := (ho i hi).1.2; omega⟩, (ho i hi).2⟩
theorem CT_back (hC : CT c k n N D cap flo top eva lev lo ap rf us rfm usm ra ac ram acm) : CT (c + 1) k n N 0 cap flo top eva 0 0 0 (g_rf k rf) (u_clr n us) (mg_rf k rfm) (u_clr n usm) ra ac ram acm := by
  obtain ⟨⟨a1, a2, a3, a4⟩, hb, ⟨r1, r2, r3, r4⟩, h4, ⟨h5, h5'⟩, h6, h7, h8⟩ := hC
  have z0 : (0 : Int32).toInt = 0 := rfl
  have z1 : (0 : Int64).toInt = 0 := rfl
  exact ⟨⟨a1, a2, a3, Nat.zero_le _⟩, ⟨rfl, Int.le_refl 0, by rw [z1]; omega⟩, ⟨(g_rf_R5 r1).1, U4_clr r2, r3, fun j hj => by omega⟩, h4, ⟨Int.le_refl 0, by rw [z0]; omega⟩, g_rf_ok h6, okd_col (u_clr_col n us) h7, h8⟩
theorem tt_tl (hT : Tt B h L tx) : xgI h (B + 110) 0 1 = some (nI L) := by
  obtain ⟨fc, pa, nu, fo, e⟩ := Tt_eq hT
  rw [e]; exact tg_tl
theorem Ot_ht (hO : Ot B h s sv c L tx) {L' : Nat} {fc pa nu : Int32} {tx' fo : Nat → Int32} : Ot B (ht (B + 110) h (nI L') fc pa nu tx' fo) s sv c L' tx' :=
  ⟨Rt_ht hO.1 (by omega), Tr_fr hO.2.1 (fun q h1 h2 => ht_out (by omega)), Sd_fr hO.2.2.1 (fun q h1 h2 => ht_out (by omega)), Tt_ht⟩
end PW9

