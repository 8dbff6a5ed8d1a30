/-! ===== the class runs orders ===== -/
section ORC
variable {σ : Hp} {nP nF nB nT nS nL n : Nat} {B : Book} {R : Nat → Int32}
theorem dcopy {a r b q : Nat} (ka : zk σ a = 0) (kb : zk σ b = 0) (ra : zr σ a 0 = some r) (rb : zr σ b 0 = some q) (kr : zk σ r = 11) (kq : zk σ q = 11) (lr : zl σ r = 112) (lq : zl σ q = 112) (hrq : r ≠ q) (haq : a ≠ q) : ∃ s, s_X0_copyFrom b (some a) σ = some ((), s) ∧ Ag (fun x k => x = q ∨ (x = b ∧ k = 1)) σ s ∧ (b ≠ q → ∀ i, i < 112 → zi s q i = zi σ r i) ∧ zi s b 1 = zi σ a 1 := by
  obtain ⟨s1, x1, e1, v1⟩ := copyRow8 (σ := σ) (a := r) (b := q) (L := 112) kr kq hrq lr lq (by decide)
  have p1 : rdR 0 σ a 0 = some (some r) := (rdR_t ka).trans (congrArg some ra)
  have p2 : rdR 0 σ b 0 = some (some q) := (rdR_t kb).trans (congrArg some rb)
  have p3 : rdI 0 s1 a 1 = some (zi σ a 1) := (rdI_t (by rw [e1.2.1]; exact ka)).trans (congrArg some (e1.2.2.2.2 a 1 (fun z => haq z.1)).1)
  have p4 : wrI 0 s1 b 1 (zi σ a 1) = some (zsi s1 b 1 (zi σ a 1)) := wrI_t (by rw [e1.2.1]; exact kb)
  refine ⟨zsi s1 b 1 (zi σ a 1), ?_, (e1.mono (fun x k z => Or.inl z.1)).trans (Ag.zsi (Or.inr ⟨rfl, rfl⟩)), fun hbq i hi => (congrFun (zi_ne (fun z => hbq z.symm)) i).trans (v1 i hi), zi_hit⟩
  unfold s_X0_copyFrom
  rw [bos, p1, bos, p2, bos, x1, cbs, p3, bos, p4, bos]
def S8e (a k : Nat) : Prop := (a = 0 ∧ (k = 13 ∨ k = 14 ∨ k = 17 ∨ k = 18)) ∨ (1 ≤ a ∧ a ≤ 15) ∨ (18 ≤ a ∧ a ≤ 34) ∨ a = 56 ∨ a = 57 ∨ (107 ≤ a ∧ a ≤ 112) ∨ a = 114 ∨ (116 ≤ a ∧ a ≤ 124)
theorem S8e.lt {a k : Nat} (h : S8e a k) : a < 156 := by
  unfold S8e at h
  omega
theorem SOc.e {a k : Nat} (h : SOc a k) : S8e a k := by
  have := h.in
  unfold S8e
  omega
theorem DC.eqx {τ s : Hp} (h : DC nP nF nT R n σ τ) (e1 : zi s 109 1 = zi σ 109 1) (e2 : zi s 110 = zi σ 110) : DC nP nF nT R n s τ := by
  unfold DC at *
  rw [e1, e2]
  exact h
def S8b (a k : Nat) : Prop := (a = 0 ∧ (k = 13 ∨ k = 14)) ∨ (20 ≤ a ∧ a ≤ 34) ∨ a = 112 ∨ (a = 111 ∧ k = 1)
theorem S8b.e {a k : Nat} (h : S8b a k) : S8e a k := by
  unfold S8b at h
  unfold S8e
  omega
/-- the class before the first order -/
theorem ord8_bef {t : Nat} {l : List Cl} (h : A8 nP nF nB nT nS nL B R n σ) (hT : TextOK t l σ) (hx : ∀ j, j < 6 → zr σ 16 j = none ∨ ∃ u, zr σ 16 j = some u ∧ zk σ u = 7 ∧ u < zn σ) : ∃ s, GH S8b σ s ∧ zn s = zn σ ∧ zk s = zk σ ∧ (∀ j, j < 6 → zr s 16 j = zr σ 16 j) ∧ (∀ j, j < 6 → zr s 35 j = zr σ 16 j) ∧ HHm 20 s R ∧ zi s 0 13 = 0 ∧ zi s 0 14 = -1 ∧ (∀ i, i < 112 → zi s 112 i = zi σ 110 i) ∧ zi s 111 1 = zi σ 109 1 ∧ ord8 t σ = cb (s_X8_orders_l91 (0, some t, 0) s) fun e59 σ58 =>
    match e59 with
    | Sum.inl h32 => (rdI 8 σ58 h32 13).bind fun v34 => (ck 8 σ58 h32).bind fun _ => cb (s_X8_grant h32 (v34) σ58) fun v37 σ36 => some (v37, σ36)
    | Sum.inr (h38, l339) => (rdR 8 σ58 h38 0).bind fun r41 => (rdR 8 σ58 h38 1).bind fun r42 => (r41).bind fun a43 => (ck 1 σ58 a43).bind fun _ => cb (s_X1_copyFrom a43 (r42) σ58) fun _ σ45 => (rdR 8 σ45 h38 8).bind fun r47 => (rdR 8 σ45 h38 9).bind fun r48 => (r47).bind fun a49 => (ck 0 σ45 a49).bind fun _ => cb (s_X0_copyFrom a49 (r48) σ45) fun _ σ51 => (wrI 8 σ51 h38 17 (l339)).bind fun σ53 => (ck 8 σ53 h38).bind fun _ => cb (s_X8_refuse h38 ((-3)) σ53) fun v56 σ55 => some (v56, σ55) := by
  have hS := h.1
  have r1 := q_r0_1 hS
  have r0 := q_r0_0 hS
  have c20 := h_ck0 hS.hk20
  obtain ⟨s22, x22, ac, hh, zz⟩ := copyFrom8 (σ := σ) (d := 20) (c := 1) hS.hk20 hS.hk1 (by unfold Apart; omega) (fun j hj => (hx j hj).imp id (fun ⟨u, a, b, _⟩ => ⟨u, a, b⟩))
  have G22 : GH S8b σ s22 := GH.ofAc ac (Or.inl rfl) (fun a k q => by unfold SD at q; unfold S8b; omega)
  have S22 := G22.sk hS
  have r9 := q_r0_9 S22
  have r8 := q_r0_8 S22
  have k111 := q_ck111 S22
  obtain ⟨s28, x28, e28, v28, w28⟩ := dcopy (σ := s22) (a := 109) (r := 110) (b := 111) (q := 112) (S22.2.1 109 (by decide)).1 (S22.2.1 111 (by decide)).1 (S22.2.2 (109, 0, 110) (by decide)) (S22.2.2 (111, 0, 112) (by decide)) (S22.2.1 110 (by decide)).1 (S22.2.1 112 (by decide)).1 (S22.2.1 110 (by decide)).2 (S22.2.1 112 (by decide)).2 (by decide) (by decide)
  have v28 := v28 (by decide)
  have S28 := S22.ag e28
  have w13 := q_w0 (k := 13) (v := 0) S28
  have e30 : Ag S13 s28 (zsi s28 0 13 0) := Ag.zsi ⟨rfl, Or.inl rfl⟩
  have v13 : zi (zsi s28 0 13 0) 0 13 = 0 := zi_hit
  generalize zsi s28 0 13 0 = s30 at w13 e30 v13
  have S30 := S28.ag e30
  have w14 := q_w0 (k := 14) (v := -1) S30
  have e31 : Ag S13 s28 (zsi s30 0 14 (-1)) := e30.trans (Ag.zsi ⟨rfl, Or.inr rfl⟩)
  have y13 : zi (zsi s30 0 14 (-1)) 0 13 = 0 := (zi_miss (by decide)).trans v13
  have y14 : zi (zsi s30 0 14 (-1)) 0 14 = -1 := zi_hit
  generalize zsi s30 0 14 (-1) = s31 at w14 e31 y13 y14
  have E : Ag S8b s22 s31 := (e28.mono (fun a k q => by unfold S8b; omega)).trans (e31.mono (fun a k q => by unfold S13 at q; unfold S8b; omega))
  have f13 : ∀ a k, a ≠ 0 → zi s31 a k = zi s28 a k := fun a k ha => (e31.2.2.2.2 a k (fun q => ha q.1)).1
  have low : ∀ a k, ¬ SD 20 a → zi s22 a k = zi σ a k := fun a k hn => (ac.2.2.2.1 a k hn).1
  refine ⟨s31, G22.trans (GH.ofAg E), E.1.trans ac.1, E.2.1.trans ac.2.1, fun j _ => ?_, fun j hj => ?_, ?_, y13, y14, fun i hi => ?_, ?_, ?_⟩
  · rw [E.2.2.2.1]
    exact ac.2.2.2.2 16 j (by decide)
  · rw [E.2.2.2.1]
    exact zz j hj
  · exact (hh R h.2.1.2.2.1).congr (fun o ho => funext fun k => by rw [f13 _ _ (by omega), (e28.2.2.2.2 (20 + o) k (by omega)).1])
  · rw [f13 _ _ (by decide), v28 i hi, low 110 i (by unfold SD; omega)]
  · rw [f13 _ _ (by decide), w28, low 109 1 (by unfold SD; omega)]
  · unfold ord8
    rw [r1, bos, r0, bos, bos, c20, bos, x22, cbs, r9, bos, r8, bos, bos, k111, bos, x28, cbs, w13, bos, w14, bos]
    (try rfl)
/-- the class after a stop -/
theorem ord8_stop {σ0 : Hp} {k : Nat} (h0 : A8 nP nF nB nT nS nL B R n σ0) (E0 : GH S8e σ0 σ) (h156 : 156 ≤ zn σ0) (hx : ∀ j, j < 6 → zr σ 35 j = none ∨ ∃ u, zr σ 35 j = some u ∧ zk σ u = 7) (hz : ∀ j, j < 6 → zr σ 35 j = zr σ0 16 j) (hh : HHm 20 σ R) (h112 : ∀ i, i < 112 → zi σ 112 i = zi σ0 110 i) (h111 : zi σ 111 1 = zi σ0 109 1) : ∃ s, GH S8e σ0 s ∧ (∀ j, j < 6 → zr s 16 j = zr σ0 16 j) ∧ zi s 0 17 = iN k ∧ zi s 0 18 = -3 ∧ (∀ j, j ≠ 2 → zi s 124 j = zi σ 124 j) ∧ zi s 124 2 = zi σ 124 2 + 1 ∧ A8 nP nF nB nT nS nL B R n s ∧ (∀ i, i < 112 → zi s 110 i = zi σ0 110 i) ∧ ((rdR 8 σ 0 0).bind fun r41 => (rdR 8 σ 0 1).bind fun r42 => (r41).bind fun a43 => (ck 1 σ a43).bind fun _ => cb (s_X1_copyFrom a43 (r42) σ) fun _ σ45 => (rdR 8 σ45 0 8).bind fun r47 => (rdR 8 σ45 0 9).bind fun r48 => (r47).bind fun a49 => (ck 0 σ45 a49).bind fun _ => cb (s_X0_copyFrom a49 (r48) σ45) fun _ σ51 => (wrI 8 σ51 0 17 (iN k)).bind fun σ53 => (ck 8 σ53 0).bind fun _ => cb (s_X8_refuse 0 ((-3)) σ53) fun v56 σ55 => some (v56, σ55)) = some (-3, s) := by
  have hS : SK σ := E0.sk h0.1
  have r0 := q_r0_0 hS
  have r1 := q_r0_1 hS
  have c1 := h_ck0 hS.hk1
  obtain ⟨s45, x45, ac, hc, zz⟩ := copyFrom8 (σ := σ) (d := 1) (c := 20) hS.hk1 hS.hk20 (by unfold Apart; omega) hx
  have G45 : GH S8e σ s45 := GH.ofAc ac (Or.inr rfl) (fun a k q => by unfold SD at q; unfold S8e; omega)
  have S45 := G45.sk hS
  have r8 := q_r0_8 S45
  have r9 := q_r0_9 S45
  have k109 := q_ck109 S45
  obtain ⟨s51, x51, e51, v51, w51⟩ := dcopy (σ := s45) (a := 111) (r := 112) (b := 109) (q := 110) (S45.2.1 111 (by decide)).1 (S45.2.1 109 (by decide)).1 (S45.2.2 (111, 0, 112) (by decide)) (S45.2.2 (109, 0, 110) (by decide)) (S45.2.1 112 (by decide)).1 (S45.2.1 110 (by decide)).1 (S45.2.1 112 (by decide)).2 (S45.2.1 110 (by decide)).2 (by decide) (by decide)
  have v51 := v51 (by decide)
  have S51 := S45.ag e51
  have w17 := q_w0 (k := 17) (v := iN k) S51
  have e53 : Ag (fun a k => a = 0 ∧ k = 17) s51 (zsi s51 0 17 (iN k)) := Ag.zsi ⟨rfl, rfl⟩
  have y17 : zi (zsi s51 0 17 (iN k)) 0 17 = iN k := zi_hit
  generalize zsi s51 0 17 (iN k) = s53 at w17 e53 y17
  have S53 := S51.ag e53
  have k8 := q_ck0 S53
  have rf := ref8_3 S53
  have e55 : Ag (fun a k => (a = 0 ∧ k = 18) ∨ a = 124) s53 (zsi (zsi s53 0 18 (-3)) 124 2 (zi s53 124 2 + 1)) := (Ag.zsi (Or.inl ⟨rfl, rfl⟩)).trans (Ag.zsi (Or.inr rfl))
  have y18 : zi (zsi (zsi s53 0 18 (-3)) 124 2 (zi s53 124 2 + 1)) 0 18 = -3 := (congrFun (zi_ne (by decide)) 18).trans zi_hit
  have y124 : ∀ j, j ≠ 2 → zi (zsi (zsi s53 0 18 (-3)) 124 2 (zi s53 124 2 + 1)) 124 j = zi s53 124 j := fun j hj => (zi_miss hj).trans (congrFun (zi_ne (by decide)) j)
  have y1242 : zi (zsi (zsi s53 0 18 (-3)) 124 2 (zi s53 124 2 + 1)) 124 2 = zi s53 124 2 + 1 := zi_hit
  generalize zsi (zsi s53 0 18 (-3)) 124 2 (zi s53 124 2 + 1) = s55 at rf e55 y18 y124 y1242
  have E51 : Ag S8e s45 s51 := e51.mono (fun a k q => by unfold S8e; omega)
  have E53 : Ag S8e s51 s53 := e53.mono (fun a k q => by unfold S8e; omega)
  have E55 : Ag S8e s53 s55 := e55.mono (fun a k q => by unfold S8e; omega)
  have E : Ag S8e s45 s55 := (E51.trans E53).trans E55
  have G : GH S8e σ0 s55 := (E0.trans G45).trans (GH.ofAg E)
  have z16 : ∀ j, j < 6 → zr s55 16 j = zr σ0 16 j := fun j hj => by
    rw [E.2.2.2.1, zz j hj]
    exact hz j hj
  have low : ∀ a k, ¬ SD 1 a → zi s45 a k = zi σ a k := fun a k hn => (ac.2.2.2.1 a k hn).1
  have s53_51 : ∀ a k, a ≠ 0 → zi s53 a k = zi s51 a k := fun a k ha => (e53.2.2.2.2 a k (fun q => ha q.1)).1
  have s55_51 : ∀ a k, a ≠ 0 → a ≠ 124 → zi s55 a k = zi s51 a k := fun a k h1 h2 => ((e55.2.2.2.2 a k (by omega)).1).trans (s53_51 a k h1)
  have n124 : ∀ j, zi s53 124 j = zi σ 124 j := fun j => by
    rw [s53_51 _ _ (by decide), (e51.2.2.2.2 124 j (by omega)).1, low 124 j (by unfold SD; omega)]
  have n110 : ∀ i, i < 112 → zi s55 110 i = zi σ0 110 i := fun i hi => by
    rw [s55_51 _ _ (by decide) (by decide), v51 i hi, low 112 i (by unfold SD; omega)]
    exact h112 i hi
  have n109 : zi s55 109 1 = zi σ0 109 1 := by
    rw [s55_51 _ _ (by decide) (by decide), w51, low 111 1 (by unfold SD; omega)]
    exact h111
  have l6 : nL ≤ 6 := h0.2.1.2.2.2.1.1.2.2.2.2.2
  have S55 := G.sk h0.1
  refine ⟨s55, G, z16, ?_, y18, fun j hj => (y124 j hj).trans (n124 j), y1242.trans (by rw [n124]), ⟨S55, ⟨h0.2.1.1, S55.hk1, ?_, h0.2.1.2.2.2.1, G.lh (fun a k q => q.lt) z16 l6 h0.2.1.2.2.2.2.1, h0.2.1.2.2.2.2.2⟩, n109.trans h0.2.2.1, h0.2.2.2⟩, n110, ?_⟩
  · rw [(e55.2.2.2.2 0 17 (by omega)).1]
    exact y17
  · exact (hc R hh).congr (fun o ho => funext fun k => by rw [s55_51 _ _ (by omega) (by omega), (e51.2.2.2.2 (1 + o) k (by omega)).1])
  · rw [r0, bos, r1, bos, bos, c1, bos, x45, cbs, r8, bos, r9, bos, bos, k109, bos, x51, cbs, w17, bos, k8, bos, rf, cbs]
end ORC
