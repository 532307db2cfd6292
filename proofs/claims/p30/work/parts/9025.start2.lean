/-! The class's object, as it begins. -/
theorem xq4 : xeqI (Int32.ofNat 4) (4 : Int32) = some () := by decide
theorem i_root {g : XH} {B : Nat} {l : List Value} {k : Nat} {v : Value} (e : g B = some (.inr (5, l))) (hk : k < l.length) : ∃ G, xpV g B 5 k v = some G ∧ G B = some (.inr (5, l.set k v)) ∧ ∀ q, q ≠ B → G q = g q :=
  ⟨_, n_pV e hk, xup_self _ _ _, fun q hq => xup_ne _ _ hq⟩
theorem i_sav {g : XH} {B : Nat} {f : Nat → Option Nat} {R : Option XE} {b c j : Nat} {ij : Int32} (hR : g B = R) (hA : g (B + 37) = arf 4 4 f) (hb : B + 38 ≤ b) (hc : c = b + 1) (hij : ij = nI j) (hj : j < 4) :
    ∃ G, (∀ K : XH → Option XH, (obind1 (f_X2_init (xup g b st0) b c) fun h10 => (xis h10 b 2).bind fun _ => (xastR h10 (B + 37) 4 ij b).bind K) = K G) ∧ G B = R ∧ G (B + 37) = arf 4 4 (xup f j (some b)) ∧ StZ b G ∧ ∀ q, q ≠ B + 37 → ¬ (b ≤ q ∧ q < b + 18) → G q = g q := by
  subst hij
  obtain ⟨G1, e1, s1, f1⟩ := i_new g b hc
  have a1 : G1 (B + 37) = arf 4 4 f := (f1 _ (by omega)).trans hA
  have hx : xin (nI j) 4 = true := xin_nI hj (by decide)
  have h3 : (nI j).toNatClampNeg = j := xnI_nat (by omega)
  have i1 : xis G1 b 2 = some () := st_is s1
  refine ⟨xup G1 (B + 37) (arf 4 4 (xup f j (some b))), fun K => ?_, ?_, xup_self _ _ _, StZ_fr s1 (fun q g1 g2 => xup_ne _ _ (by omega)), fun q h1 h2 => ?_⟩
  · rw [e1, obind1_some, i1, Option.bind_some, n_aR a1 hx, Option.bind_some, h3]
  · rw [xup_ne _ _ (by omega), f1 _ (by omega)]; exact hR
  · rw [xup_ne _ _ h1, f1 _ h2]
theorem i_X5 {h : XH} {B : Nat} (e : h B = some (.inr (5, [.null, .null, .null, .int 0, .null]))) : ∃ h', f_X5_init h B (B + 1) = some h' ∧ StZ (B + 1) h' ∧ StZ (B + 19) h' ∧ Rt B h' 0 ∧ (∃ f, h' (B + 37) = arf 4 4 f ∧ ∀ i, i < 4 → f i = some (B + 38 + 18 * i)) ∧
    (∀ i, i < 4 → StZ (B + 38 + 18 * i) h') ∧ Tt B h' 0 (fun _ => 0) ∧ ∀ q, ¬ (B ≤ q ∧ q < B + 113) → h' q = h q := by
  obtain ⟨G1, e1, s1, f1⟩ := i_new h (B + 1) (c := B + 2) (by omega)
  obtain ⟨H1, p1, r1, t1⟩ := i_root (k := 0) (v := .ref (B + 1)) ((f1 B (by omega)).trans e) (show (0 : Nat) < 5 by decide)
  obtain ⟨G2, e2, s2, f2⟩ := i_new H1 (B + 19) (c := B + 20) (by omega)
  obtain ⟨H2, p2, r2, t2⟩ := i_root (k := 1) (v := .ref (B + 19)) ((f2 B (by omega)).trans r1) (show (1 : Nat) < 5 by decide)
  obtain ⟨H3, p3, r3, t3⟩ := i_root (g := xup H2 (B + 37) (arf 4 4 (fun _ => none))) (k := 2) (v := .ref (B + 37)) ((xup_ne _ _ (show B ≠ B + 37 by omega)).trans r2) (show (2 : Nat) < 5 by decide)
  have a3 : H3 (B + 37) = arf 4 4 (fun _ => none) := (t3 _ (by omega)).trans (xup_self _ _ _)
  obtain ⟨S0, k0, ra0, aa0, z0, y0⟩ := i_sav (b := B + 38) (c := B + 39) (j := 0) (ij := 0) r3 a3 (by omega) (by omega) rfl (by omega)
  obtain ⟨S1, k1, ra1, aa1, z1, y1⟩ := i_sav (b := B + 56) (c := B + 57) (j := 1) (ij := 1) ra0 aa0 (by omega) (by omega) rfl (by omega)
  obtain ⟨S2, k2, ra2, aa2, z2, y2⟩ := i_sav (b := B + 74) (c := B + 75) (j := 2) (ij := 2) ra1 aa1 (by omega) (by omega) rfl (by omega)
  obtain ⟨S3, k3, ra3, aa3, z3, y3⟩ := i_sav (b := B + 92) (c := B + 93) (j := 3) (ij := 3) ra2 aa2 (by omega) (by omega) rfl (by omega)
  obtain ⟨T, eT, bT, fT⟩ := i_X0 (h := S3) (a := B + 110) (c := B + 111) (by omega)
  obtain ⟨H4, p4, r4, t4⟩ := i_root (k := 4) (v := .ref (B + 110)) ((fT B (by omega)).trans ra3) (show (4 : Nat) < 5 by decide)
  have g3 : xgR H3 B 5 2 = some (B + 37) := n_gR r3 rfl
  have g0 : xgR S0 B 5 2 = some (B + 37) := n_gR ra0 rfl
  have g1 : xgR S1 B 5 2 = some (B + 37) := n_gR ra1 rfl
  have g2 : xgR S2 B 5 2 = some (B + 37) := n_gR ra2 rfl
  have g4 : xgR S3 B 5 2 = some (B + 37) := n_gR ra3 rfl
  have l3 := n_len a3
  have l0 := n_len aa0
  have l1 := n_len aa1
  have l2 := n_len aa2
  have l4 := n_len aa3
  have p3' : xpV (xup H2 (B + 37) (some (.inl (4, 4, .inr (.inr (.inr (.inr (fun _ => none)))))))) B 5 2 (.ref (B + 37)) = some H3 := p3
  have F1 : ∀ q, q ≠ B → ¬ (B + 1 ≤ q ∧ q < B + 19) → H1 q = h q := fun q h1 h2 => (t1 q h1).trans (f1 q (by omega))
  have F2 : ∀ q, q ≠ B → ¬ (B + 19 ≤ q ∧ q < B + 37) → H2 q = H1 q := fun q h1 h2 => (t2 q h1).trans (f2 q (by omega))
  have F3 : ∀ q, q ≠ B → q ≠ B + 37 → H3 q = H2 q := fun q h1 h2 => (t3 q h1).trans (xup_ne _ _ h2)
  have F4 : ∀ q, q ≠ B → ¬ (B + 110 ≤ q ∧ q < B + 113) → H4 q = S3 q := fun q h1 h2 => (t4 q h1).trans (fT q (by omega))
  have SS3 : ∀ q, ¬ (B ≤ q ∧ q < B + 1) → ¬ (B + 37 ≤ q ∧ q < B + 110) → S3 q = H3 q := fun q h1 h2 => (y3 q (by omega) (by omega)).trans ((y2 q (by omega) (by omega)).trans ((y1 q (by omega) (by omega)).trans (y0 q (by omega) (by omega))))
  refine ⟨H4, ?_, ?_, ?_, ?_, ⟨_, (F4 _ (by omega) (by omega)).trans aa3, fun i hi => ?_⟩, fun i hi => ?_, ⟨0, 0, 0, fun _ => 0, fun q h1 h2 => ?_⟩, fun q hq => ?_⟩
  · unfold f_X5_init
    simp only [olet, Nat.add_assoc, Nat.reduceAdd]
    simp only [e1, obind1_some, p1, Option.bind_some]
    simp only [e2, obind1_some, p2, Option.bind_some, p3', g3, l3, xq4]
    rw [k0]
    simp only [g0, l0, xq4, Option.bind_some]
    rw [k1]
    simp only [g1, l1, xq4, Option.bind_some]
    rw [k2]
    simp only [g2, l2, xq4, Option.bind_some]
    rw [k3]
    simp only [g4, l4, xq4, Option.bind_some]
    rw [eT, obind1_some, p4, Option.bind_some]
  · exact StZ_fr s1 (fun q h1 h2 => by rw [F4 q (by omega) (by omega), SS3 q (by omega) (by omega), F3 q (by omega) (by omega), F2 q (by omega) (by omega)]; exact t1 q (by omega))
  · exact StZ_fr s2 (fun q h1 h2 => by rw [F4 q (by omega) (by omega), SS3 q (by omega) (by omega), F3 q (by omega) (by omega)]; exact t2 q (by omega))
  · exact r4
  · have h4 : i = 0 ∨ i = 1 ∨ i = 2 ∨ i = 3 := by omega
    rcases h4 with rfl | rfl | rfl | rfl <;> rfl
  · have h4 : i = 0 ∨ i = 1 ∨ i = 2 ∨ i = 3 := by omega
    rcases h4 with rfl | rfl | rfl | rfl
    · exact StZ_fr z0 (fun q h1 h2 => by rw [F4 q (by omega) (by omega), y3 q (by omega) (by omega), y2 q (by omega) (by omega), y1 q (by omega) (by omega)])
    · exact StZ_fr z1 (fun q h1 h2 => by rw [F4 q (by omega) (by omega), y3 q (by omega) (by omega), y2 q (by omega) (by omega)])
    · exact StZ_fr z2 (fun q h1 h2 => by rw [F4 q (by omega) (by omega), y3 q (by omega) (by omega)])
    · exact StZ_fr z3 (fun q h1 h2 => by rw [F4 q (by omega) (by omega)])
  · rw [t4 q (by omega)]
    exact bT q h1 (by omega)
  · rw [F4 q (by omega) (by omega), SS3 q (by omega) (by omega), F3 q (by omega) (by omega), F2 q (by omega) (by omega), F1 q (by omega) (by omega)]

